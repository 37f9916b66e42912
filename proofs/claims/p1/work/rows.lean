section
-- ===== PART A: goes FIRST, ahead of the names: the tables' words, and 'selects' of the private methods out of them =====
/-- a private method of a class that the tables say can be made, by its rows of tables_1 -/
def lw_okq (q : MethodName × Nat) : Prop := (q.1.cls ≠ "java/lang/invoke/MethodHandle" ∧ q.1.cls ≠ "java/lang/invoke/VarHandle") ∧ Cond.instantiable q.1.cls q.2 ∈ tables_1 ∧ Cond.privateMethod q.1 ∈ tables_1 ∧ Cond.instanceMethod q.1 ∈ tables_1
theorem lw_p0 : lw_okq (⟨"HarbourTugs", "isShip", "(I)Z"⟩, 6) := ⟨⟨by decide +kernel, by decide +kernel⟩, List.mem_of_getElem? (i := 14) (by decide +kernel), List.mem_of_getElem? (i := 359) (by decide +kernel), List.mem_of_getElem? (i := 360) (by decide +kernel)⟩
theorem lw_p1 : lw_okq (⟨"HarbourTugs", "isTug", "(I)Z"⟩, 6) := ⟨⟨by decide +kernel, by decide +kernel⟩, List.mem_of_getElem? (i := 14) (by decide +kernel), List.mem_of_getElem? (i := 372) (by decide +kernel), List.mem_of_getElem? (i := 373) (by decide +kernel)⟩
theorem lw_p2 : lw_okq (⟨"HarbourTugs$Tug", "fuelAfter", "(IIJ)I"⟩, 10) := ⟨⟨by decide +kernel, by decide +kernel⟩, List.mem_of_getElem? (i := 47) (by decide +kernel), List.mem_of_getElem? (i := 388) (by decide +kernel), List.mem_of_getElem? (i := 389) (by decide +kernel)⟩
theorem lw_p3 : lw_okq (⟨"HarbourTugs", "isSet", "(I)Z"⟩, 6) := ⟨⟨by decide +kernel, by decide +kernel⟩, List.mem_of_getElem? (i := 14) (by decide +kernel), List.mem_of_getElem? (i := 400) (by decide +kernel), List.mem_of_getElem? (i := 401) (by decide +kernel)⟩
theorem lw_p4 : lw_okq (⟨"HarbourTugs$Harbour", "holds", "(ILHarbourTugs$Ship;II)Z"⟩, 16) := ⟨⟨by decide +kernel, by decide +kernel⟩, List.mem_of_getElem? (i := 38) (by decide +kernel), List.mem_of_getElem? (i := 409) (by decide +kernel), List.mem_of_getElem? (i := 410) (by decide +kernel)⟩
theorem lw_p5 : lw_okq (⟨"HarbourTugs$Harbour", "lowHours", "(LHarbourTugs$Ship;)J"⟩, 16) := ⟨⟨by decide +kernel, by decide +kernel⟩, List.mem_of_getElem? (i := 38) (by decide +kernel), List.mem_of_getElem? (i := 417) (by decide +kernel), List.mem_of_getElem? (i := 418) (by decide +kernel)⟩
theorem lw_p6 : lw_okq (⟨"HarbourTugs$Harbour", "canPullAstern", "(I)Z"⟩, 16) := ⟨⟨by decide +kernel, by decide +kernel⟩, List.mem_of_getElem? (i := 38) (by decide +kernel), List.mem_of_getElem? (i := 443) (by decide +kernel), List.mem_of_getElem? (i := 444) (by decide +kernel)⟩
theorem lw_p7 : lw_okq (⟨"HarbourTugs$Harbour", "basinHours", "(LHarbourTugs$Ship;)J"⟩, 16) := ⟨⟨by decide +kernel, by decide +kernel⟩, List.mem_of_getElem? (i := 38) (by decide +kernel), List.mem_of_getElem? (i := 447) (by decide +kernel), List.mem_of_getElem? (i := 448) (by decide +kernel)⟩
theorem lw_p8 : lw_okq (⟨"HarbourTugs$Berths", "basinsOf", "(LHarbourTugs$Ship;)I"⟩, 2) := ⟨⟨by decide +kernel, by decide +kernel⟩, List.mem_of_getElem? (i := 22) (by decide +kernel), List.mem_of_getElem? (i := 455) (by decide +kernel), List.mem_of_getElem? (i := 456) (by decide +kernel)⟩
theorem lw_p9 : lw_okq (⟨"HarbourTugs$Harbour", "isGuarded", "(LHarbourTugs$Ship;II)Z"⟩, 16) := ⟨⟨by decide +kernel, by decide +kernel⟩, List.mem_of_getElem? (i := 38) (by decide +kernel), List.mem_of_getElem? (i := 465) (by decide +kernel), List.mem_of_getElem? (i := 466) (by decide +kernel)⟩
theorem lw_p10 : lw_okq (⟨"HarbourTugs$Harbour", "hasIdle", "(II)Z"⟩, 16) := ⟨⟨by decide +kernel, by decide +kernel⟩, List.mem_of_getElem? (i := 38) (by decide +kernel), List.mem_of_getElem? (i := 469) (by decide +kernel), List.mem_of_getElem? (i := 470) (by decide +kernel)⟩
theorem lw_p11 : lw_okq (⟨"HarbourTugs$Harbour", "holdsForEach", "(ILHarbourTugs$Ship;II)Z"⟩, 16) := ⟨⟨by decide +kernel, by decide +kernel⟩, List.mem_of_getElem? (i := 38) (by decide +kernel), List.mem_of_getElem? (i := 474) (by decide +kernel), List.mem_of_getElem? (i := 475) (by decide +kernel)⟩
theorem lw_p12 : lw_okq (⟨"HarbourTugs$Harbour", "holdsFor", "(IILHarbourTugs$Ship;I)Z"⟩, 16) := ⟨⟨by decide +kernel, by decide +kernel⟩, List.mem_of_getElem? (i := 38) (by decide +kernel), List.mem_of_getElem? (i := 478) (by decide +kernel), List.mem_of_getElem? (i := 479) (by decide +kernel)⟩
theorem lw_p13 : lw_okq (⟨"HarbourTugs$Harbour", "canBeThere", "(ILHarbourTugs$Ship;I)Z"⟩, 16) := ⟨⟨by decide +kernel, by decide +kernel⟩, List.mem_of_getElem? (i := 38) (by decide +kernel), List.mem_of_getElem? (i := 498) (by decide +kernel), List.mem_of_getElem? (i := 499) (by decide +kernel)⟩
theorem lw_p14 : lw_okq (⟨"HarbourTugs$Harbour", "jobBefore", "(II)LHarbourTugs$Ship;"⟩, 16) := ⟨⟨by decide +kernel, by decide +kernel⟩, List.mem_of_getElem? (i := 38) (by decide +kernel), List.mem_of_getElem? (i := 502) (by decide +kernel), List.mem_of_getElem? (i := 503) (by decide +kernel)⟩
theorem lw_p15 : lw_okq (⟨"HarbourTugs$Harbour", "jobBehind", "(II)LHarbourTugs$Ship;"⟩, 16) := ⟨⟨by decide +kernel, by decide +kernel⟩, List.mem_of_getElem? (i := 38) (by decide +kernel), List.mem_of_getElem? (i := 515) (by decide +kernel), List.mem_of_getElem? (i := 516) (by decide +kernel)⟩
def lw_privs_1 : List (MethodName × Nat) := [(⟨"HarbourTugs", "isShip", "(I)Z"⟩, 6), (⟨"HarbourTugs", "isTug", "(I)Z"⟩, 6), (⟨"HarbourTugs$Tug", "fuelAfter", "(IIJ)I"⟩, 10), (⟨"HarbourTugs", "isSet", "(I)Z"⟩, 6), (⟨"HarbourTugs$Harbour", "holds", "(ILHarbourTugs$Ship;II)Z"⟩, 16), (⟨"HarbourTugs$Harbour", "lowHours", "(LHarbourTugs$Ship;)J"⟩, 16), (⟨"HarbourTugs$Harbour", "canPullAstern", "(I)Z"⟩, 16), (⟨"HarbourTugs$Harbour", "basinHours", "(LHarbourTugs$Ship;)J"⟩, 16), (⟨"HarbourTugs$Berths", "basinsOf", "(LHarbourTugs$Ship;)I"⟩, 2), (⟨"HarbourTugs$Harbour", "isGuarded", "(LHarbourTugs$Ship;II)Z"⟩, 16), (⟨"HarbourTugs$Harbour", "hasIdle", "(II)Z"⟩, 16), (⟨"HarbourTugs$Harbour", "holdsForEach", "(ILHarbourTugs$Ship;II)Z"⟩, 16), (⟨"HarbourTugs$Harbour", "holdsFor", "(IILHarbourTugs$Ship;I)Z"⟩, 16), (⟨"HarbourTugs$Harbour", "canBeThere", "(ILHarbourTugs$Ship;I)Z"⟩, 16), (⟨"HarbourTugs$Harbour", "jobBefore", "(II)LHarbourTugs$Ship;"⟩, 16), (⟨"HarbourTugs$Harbour", "jobBehind", "(II)LHarbourTugs$Ship;"⟩, 16)]
theorem lw_r1 : ∀ q ∈ lw_privs_1, lw_okq q := List.forall_mem_cons.mpr ⟨lw_p0, List.forall_mem_cons.mpr ⟨lw_p1, List.forall_mem_cons.mpr ⟨lw_p2, List.forall_mem_cons.mpr ⟨lw_p3, List.forall_mem_cons.mpr ⟨lw_p4, List.forall_mem_cons.mpr ⟨lw_p5, List.forall_mem_cons.mpr ⟨lw_p6, List.forall_mem_cons.mpr ⟨lw_p7, List.forall_mem_cons.mpr ⟨lw_p8, List.forall_mem_cons.mpr ⟨lw_p9, List.forall_mem_cons.mpr ⟨lw_p10, List.forall_mem_cons.mpr ⟨lw_p11, List.forall_mem_cons.mpr ⟨lw_p12, List.forall_mem_cons.mpr ⟨lw_p13, List.forall_mem_cons.mpr ⟨lw_p14, List.forall_mem_cons.mpr ⟨lw_p15, fun _ h => absurd h List.not_mem_nil⟩⟩⟩⟩⟩⟩⟩⟩⟩⟩⟩⟩⟩⟩⟩⟩
theorem lw_p16 : lw_okq (⟨"HarbourTugs$Harbour", "release", "(LHarbourTugs$Ship;II)I"⟩, 16) := ⟨⟨by decide +kernel, by decide +kernel⟩, List.mem_of_getElem? (i := 38) (by decide +kernel), List.mem_of_getElem? (i := 535) (by decide +kernel), List.mem_of_getElem? (i := 536) (by decide +kernel)⟩
theorem lw_p17 : lw_okq (⟨"HarbourTugs$Harbour", "tugsFor", "(LHarbourTugs$Ship;I)I"⟩, 16) := ⟨⟨by decide +kernel, by decide +kernel⟩, List.mem_of_getElem? (i := 38) (by decide +kernel), List.mem_of_getElem? (i := 551) (by decide +kernel), List.mem_of_getElem? (i := 552) (by decide +kernel)⟩
theorem lw_p18 : lw_okq (⟨"HarbourTugs$Harbour", "leastSet", "(LHarbourTugs$Ship;II)I"⟩, 16) := ⟨⟨by decide +kernel, by decide +kernel⟩, List.mem_of_getElem? (i := 38) (by decide +kernel), List.mem_of_getElem? (i := 555) (by decide +kernel), List.mem_of_getElem? (i := 556) (by decide +kernel)⟩
theorem lw_p19 : lw_okq (⟨"HarbourTugs$Harbour", "isLess", "(II)Z"⟩, 16) := ⟨⟨by decide +kernel, by decide +kernel⟩, List.mem_of_getElem? (i := 38) (by decide +kernel), List.mem_of_getElem? (i := 559) (by decide +kernel), List.mem_of_getElem? (i := 560) (by decide +kernel)⟩
theorem lw_p20 : lw_okq (⟨"HarbourTugs", "isPlanned", "(I)Z"⟩, 6) := ⟨⟨by decide +kernel, by decide +kernel⟩, List.mem_of_getElem? (i := 14) (by decide +kernel), List.mem_of_getElem? (i := 577) (by decide +kernel), List.mem_of_getElem? (i := 578) (by decide +kernel)⟩
theorem lw_p21 : lw_okq (⟨"HarbourTugs$Planner", "nextOrder", "(I)Z"⟩, 7) := ⟨⟨by decide +kernel, by decide +kernel⟩, List.mem_of_getElem? (i := 215) (by decide +kernel), List.mem_of_getElem? (i := 623) (by decide +kernel), List.mem_of_getElem? (i := 624) (by decide +kernel)⟩
theorem lw_p22 : lw_okq (⟨"HarbourTugs$Planner", "exchange", "(II)V"⟩, 7) := ⟨⟨by decide +kernel, by decide +kernel⟩, List.mem_of_getElem? (i := 215) (by decide +kernel), List.mem_of_getElem? (i := 627) (by decide +kernel), List.mem_of_getElem? (i := 628) (by decide +kernel)⟩
theorem lw_p23 : lw_okq (⟨"HarbourTugs$Planner", "isBetter", "(III)Z"⟩, 7) := ⟨⟨by decide +kernel, by decide +kernel⟩, List.mem_of_getElem? (i := 215) (by decide +kernel), List.mem_of_getElem? (i := 654) (by decide +kernel), List.mem_of_getElem? (i := 655) (by decide +kernel)⟩
theorem lw_p24 : lw_okq (⟨"HarbourTugs$Harbour", "goesOn", "(LHarbourTugs$Ship;II)Z"⟩, 16) := ⟨⟨by decide +kernel, by decide +kernel⟩, List.mem_of_getElem? (i := 38) (by decide +kernel), List.mem_of_getElem? (i := 673) (by decide +kernel), List.mem_of_getElem? (i := 674) (by decide +kernel)⟩
theorem lw_p25 : lw_okq (⟨"HarbourTugs$Harbour", "takeOff", "(LHarbourTugs$Ship;I)I"⟩, 16) := ⟨⟨by decide +kernel, by decide +kernel⟩, List.mem_of_getElem? (i := 38) (by decide +kernel), List.mem_of_getElem? (i := 677) (by decide +kernel), List.mem_of_getElem? (i := 678) (by decide +kernel)⟩
theorem lw_p26 : lw_okq (⟨"HarbourTugsModel", "hasJob", "(I)Z"⟩, 18) := ⟨⟨by decide +kernel, by decide +kernel⟩, List.mem_of_getElem? (i := 768) (by decide +kernel), List.mem_of_getElem? (i := 864) (by decide +kernel), List.mem_of_getElem? (i := 865) (by decide +kernel)⟩
theorem lw_p27 : lw_okq (⟨"HarbourTugsModel", "ofShip", "(II)I"⟩, 18) := ⟨⟨by decide +kernel, by decide +kernel⟩, List.mem_of_getElem? (i := 768) (by decide +kernel), List.mem_of_getElem? (i := 868) (by decide +kernel), List.mem_of_getElem? (i := 869) (by decide +kernel)⟩
theorem lw_p28 : lw_okq (⟨"HarbourTugsModel", "wayOf", "(II)I"⟩, 18) := ⟨⟨by decide +kernel, by decide +kernel⟩, List.mem_of_getElem? (i := 768) (by decide +kernel), List.mem_of_getElem? (i := 876) (by decide +kernel), List.mem_of_getElem? (i := 877) (by decide +kernel)⟩
theorem lw_p29 : lw_okq (⟨"HarbourTugsModel", "isShip", "(I)Z"⟩, 18) := ⟨⟨by decide +kernel, by decide +kernel⟩, List.mem_of_getElem? (i := 768) (by decide +kernel), List.mem_of_getElem? (i := 899) (by decide +kernel), List.mem_of_getElem? (i := 900) (by decide +kernel)⟩
theorem lw_p30 : lw_okq (⟨"HarbourTugsModel", "needsOf", "(II)I"⟩, 18) := ⟨⟨by decide +kernel, by decide +kernel⟩, List.mem_of_getElem? (i := 768) (by decide +kernel), List.mem_of_getElem? (i := 903) (by decide +kernel), List.mem_of_getElem? (i := 904) (by decide +kernel)⟩
theorem lw_p31 : lw_okq (⟨"HarbourTugsModel", "isTug", "(I)Z"⟩, 18) := ⟨⟨by decide +kernel, by decide +kernel⟩, List.mem_of_getElem? (i := 768) (by decide +kernel), List.mem_of_getElem? (i := 911) (by decide +kernel), List.mem_of_getElem? (i := 912) (by decide +kernel)⟩
def lw_privs_2 : List (MethodName × Nat) := [(⟨"HarbourTugs$Harbour", "release", "(LHarbourTugs$Ship;II)I"⟩, 16), (⟨"HarbourTugs$Harbour", "tugsFor", "(LHarbourTugs$Ship;I)I"⟩, 16), (⟨"HarbourTugs$Harbour", "leastSet", "(LHarbourTugs$Ship;II)I"⟩, 16), (⟨"HarbourTugs$Harbour", "isLess", "(II)Z"⟩, 16), (⟨"HarbourTugs", "isPlanned", "(I)Z"⟩, 6), (⟨"HarbourTugs$Planner", "nextOrder", "(I)Z"⟩, 7), (⟨"HarbourTugs$Planner", "exchange", "(II)V"⟩, 7), (⟨"HarbourTugs$Planner", "isBetter", "(III)Z"⟩, 7), (⟨"HarbourTugs$Harbour", "goesOn", "(LHarbourTugs$Ship;II)Z"⟩, 16), (⟨"HarbourTugs$Harbour", "takeOff", "(LHarbourTugs$Ship;I)I"⟩, 16), (⟨"HarbourTugsModel", "hasJob", "(I)Z"⟩, 18), (⟨"HarbourTugsModel", "ofShip", "(II)I"⟩, 18), (⟨"HarbourTugsModel", "wayOf", "(II)I"⟩, 18), (⟨"HarbourTugsModel", "isShip", "(I)Z"⟩, 18), (⟨"HarbourTugsModel", "needsOf", "(II)I"⟩, 18), (⟨"HarbourTugsModel", "isTug", "(I)Z"⟩, 18)]
theorem lw_r2 : ∀ q ∈ lw_privs_2, lw_okq q := List.forall_mem_cons.mpr ⟨lw_p16, List.forall_mem_cons.mpr ⟨lw_p17, List.forall_mem_cons.mpr ⟨lw_p18, List.forall_mem_cons.mpr ⟨lw_p19, List.forall_mem_cons.mpr ⟨lw_p20, List.forall_mem_cons.mpr ⟨lw_p21, List.forall_mem_cons.mpr ⟨lw_p22, List.forall_mem_cons.mpr ⟨lw_p23, List.forall_mem_cons.mpr ⟨lw_p24, List.forall_mem_cons.mpr ⟨lw_p25, List.forall_mem_cons.mpr ⟨lw_p26, List.forall_mem_cons.mpr ⟨lw_p27, List.forall_mem_cons.mpr ⟨lw_p28, List.forall_mem_cons.mpr ⟨lw_p29, List.forall_mem_cons.mpr ⟨lw_p30, List.forall_mem_cons.mpr ⟨lw_p31, fun _ h => absurd h List.not_mem_nil⟩⟩⟩⟩⟩⟩⟩⟩⟩⟩⟩⟩⟩⟩⟩⟩
theorem lw_p32 : lw_okq (⟨"HarbourTugsModel", "workOf", "(I)J"⟩, 18) := ⟨⟨by decide +kernel, by decide +kernel⟩, List.mem_of_getElem? (i := 768) (by decide +kernel), List.mem_of_getElem? (i := 916) (by decide +kernel), List.mem_of_getElem? (i := 917) (by decide +kernel)⟩
theorem lw_p33 : lw_okq (⟨"HarbourTugsModel", "fuelBehind", "(IJI)I"⟩, 18) := ⟨⟨by decide +kernel, by decide +kernel⟩, List.mem_of_getElem? (i := 768) (by decide +kernel), List.mem_of_getElem? (i := 920) (by decide +kernel), List.mem_of_getElem? (i := 921) (by decide +kernel)⟩
theorem lw_p34 : lw_okq (⟨"HarbourTugsModel", "ofTug", "(II)I"⟩, 18) := ⟨⟨by decide +kernel, by decide +kernel⟩, List.mem_of_getElem? (i := 768) (by decide +kernel), List.mem_of_getElem? (i := 924) (by decide +kernel), List.mem_of_getElem? (i := 925) (by decide +kernel)⟩
theorem lw_p35 : lw_okq (⟨"HarbourTugsModel", "bunkersOf", "(I)J"⟩, 18) := ⟨⟨by decide +kernel, by decide +kernel⟩, List.mem_of_getElem? (i := 768) (by decide +kernel), List.mem_of_getElem? (i := 931) (by decide +kernel), List.mem_of_getElem? (i := 932) (by decide +kernel)⟩
theorem lw_p36 : lw_okq (⟨"HarbourTugsModel", "isSet", "(I)Z"⟩, 18) := ⟨⟨by decide +kernel, by decide +kernel⟩, List.mem_of_getElem? (i := 768) (by decide +kernel), List.mem_of_getElem? (i := 943) (by decide +kernel), List.mem_of_getElem? (i := 944) (by decide +kernel)⟩
theorem lw_p37 : lw_okq (⟨"HarbourTugsModel", "whyNot", "(III)I"⟩, 18) := ⟨⟨by decide +kernel, by decide +kernel⟩, List.mem_of_getElem? (i := 768) (by decide +kernel), List.mem_of_getElem? (i := 947) (by decide +kernel), List.mem_of_getElem? (i := 948) (by decide +kernel)⟩
theorem lw_p38 : lw_okq (⟨"HarbourTugsModel", "failsBy", "(IIII)Z"⟩, 18) := ⟨⟨by decide +kernel, by decide +kernel⟩, List.mem_of_getElem? (i := 768) (by decide +kernel), List.mem_of_getElem? (i := 951) (by decide +kernel), List.mem_of_getElem? (i := 952) (by decide +kernel)⟩
theorem lw_p39 : lw_okq (⟨"HarbourTugsModel", "failsAlone", "(III)Z"⟩, 18) := ⟨⟨by decide +kernel, by decide +kernel⟩, List.mem_of_getElem? (i := 768) (by decide +kernel), List.mem_of_getElem? (i := 955) (by decide +kernel), List.mem_of_getElem? (i := 956) (by decide +kernel)⟩
theorem lw_p40 : lw_okq (⟨"HarbourTugsModel", "isBarred", "(II)Z"⟩, 18) := ⟨⟨by decide +kernel, by decide +kernel⟩, List.mem_of_getElem? (i := 768) (by decide +kernel), List.mem_of_getElem? (i := 959) (by decide +kernel), List.mem_of_getElem? (i := 960) (by decide +kernel)⟩
theorem lw_p41 : lw_okq (⟨"HarbourTugsModel", "last", "(I)I"⟩, 18) := ⟨⟨by decide +kernel, by decide +kernel⟩, List.mem_of_getElem? (i := 768) (by decide +kernel), List.mem_of_getElem? (i := 963) (by decide +kernel), List.mem_of_getElem? (i := 964) (by decide +kernel)⟩
theorem lw_p42 : lw_okq (⟨"HarbourTugsModel", "failsTogether", "(IIII)Z"⟩, 18) := ⟨⟨by decide +kernel, by decide +kernel⟩, List.mem_of_getElem? (i := 768) (by decide +kernel), List.mem_of_getElem? (i := 970) (by decide +kernel), List.mem_of_getElem? (i := 971) (by decide +kernel)⟩
theorem lw_p43 : lw_okq (⟨"HarbourTugsModel", "pullOf", "(I)I"⟩, 18) := ⟨⟨by decide +kernel, by decide +kernel⟩, List.mem_of_getElem? (i := 768) (by decide +kernel), List.mem_of_getElem? (i := 974) (by decide +kernel), List.mem_of_getElem? (i := 975) (by decide +kernel)⟩
theorem lw_p44 : lw_okq (⟨"HarbourTugsModel", "fails", "(IIII)Z"⟩, 18) := ⟨⟨by decide +kernel, by decide +kernel⟩, List.mem_of_getElem? (i := 768) (by decide +kernel), List.mem_of_getElem? (i := 978) (by decide +kernel), List.mem_of_getElem? (i := 979) (by decide +kernel)⟩
theorem lw_p45 : lw_okq (⟨"HarbourTugsModel", "rests", "(IJ)Z"⟩, 18) := ⟨⟨by decide +kernel, by decide +kernel⟩, List.mem_of_getElem? (i := 768) (by decide +kernel), List.mem_of_getElem? (i := 982) (by decide +kernel), List.mem_of_getElem? (i := 983) (by decide +kernel)⟩
theorem lw_p46 : lw_okq (⟨"HarbourTugsModel", "comes", "(III)Z"⟩, 18) := ⟨⟨by decide +kernel, by decide +kernel⟩, List.mem_of_getElem? (i := 768) (by decide +kernel), List.mem_of_getElem? (i := 986) (by decide +kernel), List.mem_of_getElem? (i := 987) (by decide +kernel)⟩
theorem lw_p47 : lw_okq (⟨"HarbourTugsModel", "isOf", "(II)Z"⟩, 18) := ⟨⟨by decide +kernel, by decide +kernel⟩, List.mem_of_getElem? (i := 768) (by decide +kernel), List.mem_of_getElem? (i := 990) (by decide +kernel), List.mem_of_getElem? (i := 991) (by decide +kernel)⟩
def lw_privs_3 : List (MethodName × Nat) := [(⟨"HarbourTugsModel", "workOf", "(I)J"⟩, 18), (⟨"HarbourTugsModel", "fuelBehind", "(IJI)I"⟩, 18), (⟨"HarbourTugsModel", "ofTug", "(II)I"⟩, 18), (⟨"HarbourTugsModel", "bunkersOf", "(I)J"⟩, 18), (⟨"HarbourTugsModel", "isSet", "(I)Z"⟩, 18), (⟨"HarbourTugsModel", "whyNot", "(III)I"⟩, 18), (⟨"HarbourTugsModel", "failsBy", "(IIII)Z"⟩, 18), (⟨"HarbourTugsModel", "failsAlone", "(III)Z"⟩, 18), (⟨"HarbourTugsModel", "isBarred", "(II)Z"⟩, 18), (⟨"HarbourTugsModel", "last", "(I)I"⟩, 18), (⟨"HarbourTugsModel", "failsTogether", "(IIII)Z"⟩, 18), (⟨"HarbourTugsModel", "pullOf", "(I)I"⟩, 18), (⟨"HarbourTugsModel", "fails", "(IIII)Z"⟩, 18), (⟨"HarbourTugsModel", "rests", "(IJ)Z"⟩, 18), (⟨"HarbourTugsModel", "comes", "(III)Z"⟩, 18), (⟨"HarbourTugsModel", "isOf", "(II)Z"⟩, 18)]
theorem lw_r3 : ∀ q ∈ lw_privs_3, lw_okq q := List.forall_mem_cons.mpr ⟨lw_p32, List.forall_mem_cons.mpr ⟨lw_p33, List.forall_mem_cons.mpr ⟨lw_p34, List.forall_mem_cons.mpr ⟨lw_p35, List.forall_mem_cons.mpr ⟨lw_p36, List.forall_mem_cons.mpr ⟨lw_p37, List.forall_mem_cons.mpr ⟨lw_p38, List.forall_mem_cons.mpr ⟨lw_p39, List.forall_mem_cons.mpr ⟨lw_p40, List.forall_mem_cons.mpr ⟨lw_p41, List.forall_mem_cons.mpr ⟨lw_p42, List.forall_mem_cons.mpr ⟨lw_p43, List.forall_mem_cons.mpr ⟨lw_p44, List.forall_mem_cons.mpr ⟨lw_p45, List.forall_mem_cons.mpr ⟨lw_p46, List.forall_mem_cons.mpr ⟨lw_p47, fun _ h => absurd h List.not_mem_nil⟩⟩⟩⟩⟩⟩⟩⟩⟩⟩⟩⟩⟩⟩⟩⟩
theorem lw_p48 : lw_okq (⟨"HarbourTugsModel", "lays", "(III)V"⟩, 18) := ⟨⟨by decide +kernel, by decide +kernel⟩, List.mem_of_getElem? (i := 768) (by decide +kernel), List.mem_of_getElem? (i := 999) (by decide +kernel), List.mem_of_getElem? (i := 1000) (by decide +kernel)⟩
theorem lw_p49 : lw_okq (⟨"HarbourTugsModel", "takes", "(II)I"⟩, 18) := ⟨⟨by decide +kernel, by decide +kernel⟩, List.mem_of_getElem? (i := 768) (by decide +kernel), List.mem_of_getElem? (i := 1007) (by decide +kernel), List.mem_of_getElem? (i := 1008) (by decide +kernel)⟩
theorem lw_p50 : lw_okq (⟨"HarbourTugsModel", "finds", "(I)Z"⟩, 18) := ⟨⟨by decide +kernel, by decide +kernel⟩, List.mem_of_getElem? (i := 768) (by decide +kernel), List.mem_of_getElem? (i := 1015) (by decide +kernel), List.mem_of_getElem? (i := 1016) (by decide +kernel)⟩
theorem lw_p51 : lw_okq (⟨"HarbourTugsModel", "isBetter", "(II)Z"⟩, 18) := ⟨⟨by decide +kernel, by decide +kernel⟩, List.mem_of_getElem? (i := 768) (by decide +kernel), List.mem_of_getElem? (i := 1019) (by decide +kernel), List.mem_of_getElem? (i := 1020) (by decide +kernel)⟩
theorem lw_p52 : lw_okq (⟨"HarbourTugsModel", "isMany", "(I)Z"⟩, 18) := ⟨⟨by decide +kernel, by decide +kernel⟩, List.mem_of_getElem? (i := 768) (by decide +kernel), List.mem_of_getElem? (i := 1034) (by decide +kernel), List.mem_of_getElem? (i := 1035) (by decide +kernel)⟩
theorem lw_p53 : lw_okq (⟨"HarbourTugsModel", "bestOrder", "(I)I"⟩, 18) := ⟨⟨by decide +kernel, by decide +kernel⟩, List.mem_of_getElem? (i := 768) (by decide +kernel), List.mem_of_getElem? (i := 1038) (by decide +kernel), List.mem_of_getElem? (i := 1039) (by decide +kernel)⟩
theorem lw_p54 : lw_okq (⟨"HarbourTugsModel", "asides", "()V"⟩, 18) := ⟨⟨by decide +kernel, by decide +kernel⟩, List.mem_of_getElem? (i := 768) (by decide +kernel), List.mem_of_getElem? (i := 1042) (by decide +kernel), List.mem_of_getElem? (i := 1043) (by decide +kernel)⟩
theorem lw_p55 : lw_okq (⟨"HarbourTugsModel", "empties", "()V"⟩, 18) := ⟨⟨by decide +kernel, by decide +kernel⟩, List.mem_of_getElem? (i := 768) (by decide +kernel), List.mem_of_getElem? (i := 1050) (by decide +kernel), List.mem_of_getElem? (i := 1051) (by decide +kernel)⟩
theorem lw_p56 : lw_okq (⟨"HarbourTugsModel", "plans", "(II)I"⟩, 18) := ⟨⟨by decide +kernel, by decide +kernel⟩, List.mem_of_getElem? (i := 768) (by decide +kernel), List.mem_of_getElem? (i := 1054) (by decide +kernel), List.mem_of_getElem? (i := 1055) (by decide +kernel)⟩
theorem lw_p57 : lw_okq (⟨"HarbourTugsModel", "waited", "(I)I"⟩, 18) := ⟨⟨by decide +kernel, by decide +kernel⟩, List.mem_of_getElem? (i := 768) (by decide +kernel), List.mem_of_getElem? (i := 1058) (by decide +kernel), List.mem_of_getElem? (i := 1059) (by decide +kernel)⟩
theorem lw_p58 : lw_okq (⟨"HarbourTugsModel", "returns", "()V"⟩, 18) := ⟨⟨by decide +kernel, by decide +kernel⟩, List.mem_of_getElem? (i := 768) (by decide +kernel), List.mem_of_getElem? (i := 1062) (by decide +kernel), List.mem_of_getElem? (i := 1063) (by decide +kernel)⟩
theorem lw_p59 : lw_okq (⟨"HarbourTugsModel", "mends", "(I)V"⟩, 18) := ⟨⟨by decide +kernel, by decide +kernel⟩, List.mem_of_getElem? (i := 768) (by decide +kernel), List.mem_of_getElem? (i := 1075) (by decide +kernel), List.mem_of_getElem? (i := 1076) (by decide +kernel)⟩
theorem lw_p60 : lw_okq (⟨"HarbourTugsModel", "tries", "(II)I"⟩, 18) := ⟨⟨by decide +kernel, by decide +kernel⟩, List.mem_of_getElem? (i := 768) (by decide +kernel), List.mem_of_getElem? (i := 1079) (by decide +kernel), List.mem_of_getElem? (i := 1080) (by decide +kernel)⟩
theorem lw_p61 : lw_okq (⟨"HarbourTugsModel", "goesOn", "(III)Z"⟩, 18) := ⟨⟨by decide +kernel, by decide +kernel⟩, List.mem_of_getElem? (i := 768) (by decide +kernel), List.mem_of_getElem? (i := 1091) (by decide +kernel), List.mem_of_getElem? (i := 1092) (by decide +kernel)⟩
theorem lw_p62 : lw_okq (⟨"HarbourTugsModel", "hoursIn", "(J)I"⟩, 18) := ⟨⟨by decide +kernel, by decide +kernel⟩, List.mem_of_getElem? (i := 768) (by decide +kernel), List.mem_of_getElem? (i := 1107) (by decide +kernel), List.mem_of_getElem? (i := 1108) (by decide +kernel)⟩
theorem lw_p63 : lw_okq (⟨"HarbourTugsModel", "passes", "(II)Z"⟩, 18) := ⟨⟨by decide +kernel, by decide +kernel⟩, List.mem_of_getElem? (i := 768) (by decide +kernel), List.mem_of_getElem? (i := 1126) (by decide +kernel), List.mem_of_getElem? (i := 1127) (by decide +kernel)⟩
def lw_privs_4 : List (MethodName × Nat) := [(⟨"HarbourTugsModel", "lays", "(III)V"⟩, 18), (⟨"HarbourTugsModel", "takes", "(II)I"⟩, 18), (⟨"HarbourTugsModel", "finds", "(I)Z"⟩, 18), (⟨"HarbourTugsModel", "isBetter", "(II)Z"⟩, 18), (⟨"HarbourTugsModel", "isMany", "(I)Z"⟩, 18), (⟨"HarbourTugsModel", "bestOrder", "(I)I"⟩, 18), (⟨"HarbourTugsModel", "asides", "()V"⟩, 18), (⟨"HarbourTugsModel", "empties", "()V"⟩, 18), (⟨"HarbourTugsModel", "plans", "(II)I"⟩, 18), (⟨"HarbourTugsModel", "waited", "(I)I"⟩, 18), (⟨"HarbourTugsModel", "returns", "()V"⟩, 18), (⟨"HarbourTugsModel", "mends", "(I)V"⟩, 18), (⟨"HarbourTugsModel", "tries", "(II)I"⟩, 18), (⟨"HarbourTugsModel", "goesOn", "(III)Z"⟩, 18), (⟨"HarbourTugsModel", "hoursIn", "(J)I"⟩, 18), (⟨"HarbourTugsModel", "passes", "(II)Z"⟩, 18)]
theorem lw_r4 : ∀ q ∈ lw_privs_4, lw_okq q := List.forall_mem_cons.mpr ⟨lw_p48, List.forall_mem_cons.mpr ⟨lw_p49, List.forall_mem_cons.mpr ⟨lw_p50, List.forall_mem_cons.mpr ⟨lw_p51, List.forall_mem_cons.mpr ⟨lw_p52, List.forall_mem_cons.mpr ⟨lw_p53, List.forall_mem_cons.mpr ⟨lw_p54, List.forall_mem_cons.mpr ⟨lw_p55, List.forall_mem_cons.mpr ⟨lw_p56, List.forall_mem_cons.mpr ⟨lw_p57, List.forall_mem_cons.mpr ⟨lw_p58, List.forall_mem_cons.mpr ⟨lw_p59, List.forall_mem_cons.mpr ⟨lw_p60, List.forall_mem_cons.mpr ⟨lw_p61, List.forall_mem_cons.mpr ⟨lw_p62, List.forall_mem_cons.mpr ⟨lw_p63, fun _ h => absurd h List.not_mem_nil⟩⟩⟩⟩⟩⟩⟩⟩⟩⟩⟩⟩⟩⟩⟩⟩
theorem lw_p64 : lw_okq (⟨"HarbourTugsModel", "berthOf", "(I)I"⟩, 18) := ⟨⟨by decide +kernel, by decide +kernel⟩, List.mem_of_getElem? (i := 768) (by decide +kernel), List.mem_of_getElem? (i := 1145) (by decide +kernel), List.mem_of_getElem? (i := 1146) (by decide +kernel)⟩
def lw_privs_5 : List (MethodName × Nat) := [(⟨"HarbourTugsModel", "berthOf", "(I)I"⟩, 18)]
theorem lw_r5 : ∀ q ∈ lw_privs_5, lw_okq q := List.forall_mem_cons.mpr ⟨lw_p64, fun _ h => absurd h List.not_mem_nil⟩
def lw_privs : List (MethodName × Nat) := lw_privs_1 ++ (lw_privs_2 ++ (lw_privs_3 ++ (lw_privs_4 ++ (lw_privs_5))))
def lw_tbl : List Cond := k2_sels lw_privs ++ tables_1
theorem lw_privs_ok : ∀ q ∈ lw_privs, lw_okq q := by
  show ∀ q ∈ lw_privs_1 ++ (lw_privs_2 ++ (lw_privs_3 ++ (lw_privs_4 ++ (lw_privs_5)))), lw_okq q
  exact List.forall_mem_append.mpr ⟨lw_r1, List.forall_mem_append.mpr ⟨lw_r2, List.forall_mem_append.mpr ⟨lw_r3, List.forall_mem_append.mpr ⟨lw_r4, lw_r5⟩⟩⟩⟩
-- ===== end of PART A; then your names; then what follows =====
def RX0 : String := "HarbourTugs$Berths"
def TX0 : u_T := fun k => match k with
  | 0 => ("HarbourTugs$Berths", "place", "[I", true)
  | _ => ("HarbourTugs$Berths", "basin", "[I", true)
def tyX0 : Nat → FieldType := fun k => match k with
  | 0 => .array .int
  | _ => .array .int
abbrev wsX00 : List Cond := u_ws RX0 TX0 2
theorem nmX0 : ∀ a, a < 2 → ∀ b, b < 2 → a ≠ b → (TX0 a).2.1 ≠ (TX0 b).2.1 := by decide +kernel
theorem tyX0_ok : ∀ k, k < 2 → parseFieldDescriptor (TX0 k).2.2.1 = some (tyX0 k) := by decide +kernel
abbrev cX0_init : ByteArray := prog_2_method_1_code
def yX0_init : MethodName := ⟨RX0, "<init>", "()V"⟩
abbrev cX0_hoursBetween : ByteArray := prog_2_method_2_code
def yX0_hoursBetween : MethodName := ⟨RX0, "hoursBetween", "(III)I"⟩
abbrev cX0_basinsOf : ByteArray := prog_2_method_3_code
def yX0_basinsOf : MethodName := ⟨RX0, "basinsOf", "(LHarbourTugs$Ship;)I"⟩
abbrev cX0_shareBasin : ByteArray := prog_2_method_4_code
def yX0_shareBasin : MethodName := ⟨RX0, "shareBasin", "(LHarbourTugs$Ship;LHarbourTugs$Ship;)Z"⟩
def RX1 : String := "HarbourTugs$Harbour"
def TX1 : u_T := fun k => match k with
  | 0 => ("HarbourTugs$Harbour", "berths", "LHarbourTugs$Berths;", true)
  | 1 => ("HarbourTugs$Harbour", "tide", "[I", true)
  | 2 => ("HarbourTugs$Harbour", "wind", "[I", true)
  | 3 => ("HarbourTugs$Harbour", "tugs", "[LHarbourTugs$Tug;", true)
  | 4 => ("HarbourTugs$Harbour", "ships", "[LHarbourTugs$Ship;", true)
  | 5 => ("HarbourTugs$Harbour", "rest", "I", false)
  | 6 => ("HarbourTugs$Harbour", "fire", "I", false)
  | 7 => ("HarbourTugs$Harbour", "speed", "I", false)
  | 8 => ("HarbourTugs$Harbour", "storm", "J", false)
  | 9 => ("HarbourTugs$Harbour", "tugCount", "I", false)
  | 10 => ("HarbourTugs$Harbour", "shipCount", "I", false)
  | 11 => ("HarbourTugs$Harbour", "laidEver", "I", false)
  | 12 => ("HarbourTugs$Harbour", "takenOffEver", "I", false)
  | 13 => ("HarbourTugs$Harbour", "lostByBreaking", "I", false)
  | 14 => ("HarbourTugs$Harbour", "lostByStorm", "I", false)
  | _ => ("HarbourTugs$Harbour", "bestSet", "I", false)
def tyX1 : Nat → FieldType := fun k => match k with
  | 0 => .object "HarbourTugs$Berths"
  | 1 => .array .int
  | 2 => .array .int
  | 3 => .array (.object "HarbourTugs$Tug")
  | 4 => .array (.object "HarbourTugs$Ship")
  | 5 => .int
  | 6 => .int
  | 7 => .int
  | 8 => .long
  | 9 => .int
  | 10 => .int
  | 11 => .int
  | 12 => .int
  | 13 => .int
  | 14 => .int
  | _ => .int
abbrev wsX10 : List Cond := u_ws RX1 TX1 16
theorem nmX1 : ∀ a, a < 16 → ∀ b, b < 16 → a ≠ b → (TX1 a).2.1 ≠ (TX1 b).2.1 := by decide +kernel
theorem tyX1_ok : ∀ k, k < 16 → parseFieldDescriptor (TX1 k).2.2.1 = some (tyX1 k) := by decide +kernel
abbrev cX1_init : ByteArray := prog_3_method_1_code
def yX1_init : MethodName := ⟨RX1, "<init>", "(LHarbourTugs$Berths;)V"⟩
abbrev cX1_copyFrom : ByteArray := prog_3_method_2_code
def yX1_copyFrom : MethodName := ⟨RX1, "copyFrom", "(LHarbourTugs$Harbour;)V"⟩
abbrev cX1_jobsLaid : ByteArray := prog_3_method_3_code
def yX1_jobsLaid : MethodName := ⟨RX1, "jobsLaid", "()I"⟩
abbrev cX1_isBerthUsed : ByteArray := prog_3_method_4_code
def yX1_isBerthUsed : MethodName := ⟨RX1, "isBerthUsed", "(I)Z"⟩
abbrev cX1_pullHours : ByteArray := prog_3_method_5_code
def yX1_pullHours : MethodName := ⟨RX1, "pullHours", "(I)J"⟩
abbrev cX1_lastBerth : ByteArray := prog_3_method_6_code
def yX1_lastBerth : MethodName := ⟨RX1, "lastBerth", "(I)I"⟩
abbrev cX1_neededPull : ByteArray := prog_3_method_7_code
def yX1_neededPull : MethodName := ⟨RX1, "neededPull", "(LHarbourTugs$Ship;I)I"⟩
abbrev cX1_mostNeeded : ByteArray := prog_3_method_8_code
def yX1_mostNeeded : MethodName := ⟨RX1, "mostNeeded", "(LHarbourTugs$Ship;II)I"⟩
abbrev cX1_pullOf : ByteArray := prog_3_method_9_code
def yX1_pullOf : MethodName := ⟨RX1, "pullOf", "(I)I"⟩
abbrev cX1_canPullAstern : ByteArray := prog_3_method_10_code
def yX1_canPullAstern : MethodName := ⟨RX1, "canPullAstern", "(I)Z"⟩
abbrev cX1_lowHours : ByteArray := prog_3_method_11_code
def yX1_lowHours : MethodName := ⟨RX1, "lowHours", "(LHarbourTugs$Ship;)J"⟩
abbrev cX1_basinHours : ByteArray := prog_3_method_12_code
def yX1_basinHours : MethodName := ⟨RX1, "basinHours", "(LHarbourTugs$Ship;)J"⟩
abbrev cX1_isGuarded : ByteArray := prog_3_method_13_code
def yX1_isGuarded : MethodName := ⟨RX1, "isGuarded", "(LHarbourTugs$Ship;II)Z"⟩
abbrev cX1_hasIdle : ByteArray := prog_3_method_14_code
def yX1_hasIdle : MethodName := ⟨RX1, "hasIdle", "(II)Z"⟩
abbrev cX1_jobBefore : ByteArray := prog_3_method_15_code
def yX1_jobBefore : MethodName := ⟨RX1, "jobBefore", "(II)LHarbourTugs$Ship;"⟩
abbrev cX1_jobBehind : ByteArray := prog_3_method_16_code
def yX1_jobBehind : MethodName := ⟨RX1, "jobBehind", "(II)LHarbourTugs$Ship;"⟩
abbrev cX1_canBeThere : ByteArray := prog_3_method_17_code
def yX1_canBeThere : MethodName := ⟨RX1, "canBeThere", "(ILHarbourTugs$Ship;I)Z"⟩
abbrev cX1_failsBy : ByteArray := prog_3_method_18_code
def yX1_failsBy : MethodName := ⟨RX1, "failsBy", "(LHarbourTugs$Ship;II)I"⟩
abbrev cX1_holds : ByteArray := prog_3_method_19_code
def yX1_holds : MethodName := ⟨RX1, "holds", "(ILHarbourTugs$Ship;II)Z"⟩
abbrev cX1_holdsForEach : ByteArray := prog_3_method_20_code
def yX1_holdsForEach : MethodName := ⟨RX1, "holdsForEach", "(ILHarbourTugs$Ship;II)Z"⟩
abbrev cX1_holdsFor : ByteArray := prog_3_method_21_code
def yX1_holdsFor : MethodName := ⟨RX1, "holdsFor", "(IILHarbourTugs$Ship;I)Z"⟩
abbrev cX1_seekBest : ByteArray := prog_3_method_22_code
def yX1_seekBest : MethodName := ⟨RX1, "seekBest", "(LHarbourTugs$Ship;)I"⟩
abbrev cX1_tugsFor : ByteArray := prog_3_method_23_code
def yX1_tugsFor : MethodName := ⟨RX1, "tugsFor", "(LHarbourTugs$Ship;I)I"⟩
abbrev cX1_leastSet : ByteArray := prog_3_method_24_code
def yX1_leastSet : MethodName := ⟨RX1, "leastSet", "(LHarbourTugs$Ship;II)I"⟩
abbrev cX1_isLess : ByteArray := prog_3_method_25_code
def yX1_isLess : MethodName := ⟨RX1, "isLess", "(II)Z"⟩
abbrev cX1_put : ByteArray := prog_3_method_26_code
def yX1_put : MethodName := ⟨RX1, "put", "(LHarbourTugs$Ship;II)V"⟩
abbrev cX1_release : ByteArray := prog_3_method_27_code
def yX1_release : MethodName := ⟨RX1, "release", "(LHarbourTugs$Ship;II)I"⟩
abbrev cX1_lift : ByteArray := prog_3_method_28_code
def yX1_lift : MethodName := ⟨RX1, "lift", "(LHarbourTugs$Ship;)V"⟩
abbrev cX1_liftAll : ByteArray := prog_3_method_29_code
def yX1_liftAll : MethodName := ⟨RX1, "liftAll", "(I)V"⟩
abbrev cX1_takeOff : ByteArray := prog_3_method_30_code
def yX1_takeOff : MethodName := ⟨RX1, "takeOff", "(LHarbourTugs$Ship;I)I"⟩
abbrev cX1_clearPlan : ByteArray := prog_3_method_31_code
def yX1_clearPlan : MethodName := ⟨RX1, "clearPlan", "()V"⟩
abbrev cX1_layEach : ByteArray := prog_3_method_32_code
def yX1_layEach : MethodName := ⟨RX1, "layEach", "([II)I"⟩
abbrev cX1_waitedOf : ByteArray := prog_3_method_33_code
def yX1_waitedOf : MethodName := ⟨RX1, "waitedOf", "(I)I"⟩
abbrev cX1_breakDown : ByteArray := prog_3_method_34_code
def yX1_breakDown : MethodName := ⟨RX1, "breakDown", "(II)I"⟩
abbrev cX1_goesOn : ByteArray := prog_3_method_35_code
def yX1_goesOn : MethodName := ⟨RX1, "goesOn", "(LHarbourTugs$Ship;II)Z"⟩
abbrev cX1_blow : ByteArray := prog_3_method_36_code
def yX1_blow : MethodName := ⟨RX1, "blow", "(II)I"⟩
def RX2 : String := "HarbourTugs$Planner"
def TX2 : u_T := fun k => match k with
  | 0 => ("HarbourTugs$Planner", "trial", "LHarbourTugs$Harbour;", true)
  | 1 => ("HarbourTugs$Planner", "byNumbers", "[I", true)
  | 2 => ("HarbourTugs$Planner", "tried", "[I", true)
  | 3 => ("HarbourTugs$Planner", "chosen", "[I", true)
  | 4 => ("HarbourTugs$Planner", "served", "I", false)
  | 5 => ("HarbourTugs$Planner", "waited", "I", false)
  | _ => ("HarbourTugs$Planner", "lifted", "I", false)
def tyX2 : Nat → FieldType := fun k => match k with
  | 0 => .object "HarbourTugs$Harbour"
  | 1 => .array .int
  | 2 => .array .int
  | 3 => .array .int
  | 4 => .int
  | 5 => .int
  | _ => .int
abbrev wsX20 : List Cond := u_ws RX2 TX2 7
theorem nmX2 : ∀ a, a < 7 → ∀ b, b < 7 → a ≠ b → (TX2 a).2.1 ≠ (TX2 b).2.1 := by decide +kernel
theorem tyX2_ok : ∀ k, k < 7 → parseFieldDescriptor (TX2 k).2.2.1 = some (tyX2 k) := by decide +kernel
abbrev cX2_init : ByteArray := prog_4_method_1_code
def yX2_init : MethodName := ⟨RX2, "<init>", "(LHarbourTugs$Berths;)V"⟩
abbrev cX2_findOrder : ByteArray := prog_4_method_2_code
def yX2_findOrder : MethodName := ⟨RX2, "findOrder", "(LHarbourTugs$Harbour;I)V"⟩
abbrev cX2_takeOver : ByteArray := prog_4_method_3_code
def yX2_takeOver : MethodName := ⟨RX2, "takeOver", "([I[I)V"⟩
abbrev cX2_nextOrder : ByteArray := prog_4_method_4_code
def yX2_nextOrder : MethodName := ⟨RX2, "nextOrder", "(I)Z"⟩
abbrev cX2_exchange : ByteArray := prog_4_method_5_code
def yX2_exchange : MethodName := ⟨RX2, "exchange", "(II)V"⟩
abbrev cX2_findMended : ByteArray := prog_4_method_6_code
def yX2_findMended : MethodName := ⟨RX2, "findMended", "(LHarbourTugs$Harbour;I)V"⟩
abbrev cX2_allHaveJobs : ByteArray := prog_4_method_7_code
def yX2_allHaveJobs : MethodName := ⟨RX2, "allHaveJobs", "(LHarbourTugs$Harbour;I)Z"⟩
abbrev cX2_isBetter : ByteArray := prog_4_method_8_code
def yX2_isBetter : MethodName := ⟨RX2, "isBetter", "(III)Z"⟩
def RX3 : String := "HarbourTugs$Prices"
def TX3 : u_T := fun k => match k with
  | 0 => ("HarbourTugs$Prices", "tests", "[I", true)
  | 1 => ("HarbourTugs$Prices", "values", "[I", true)
  | 2 => ("HarbourTugs$Prices", "kinds", "[I", true)
  | 3 => ("HarbourTugs$Prices", "amounts", "[I", true)
  | _ => ("HarbourTugs$Prices", "count", "I", false)
def tyX3 : Nat → FieldType := fun k => match k with
  | 0 => .array .int
  | 1 => .array .int
  | 2 => .array .int
  | 3 => .array .int
  | _ => .int
abbrev wsX30 : List Cond := u_ws RX3 TX3 5
theorem nmX3 : ∀ a, a < 5 → ∀ b, b < 5 → a ≠ b → (TX3 a).2.1 ≠ (TX3 b).2.1 := by decide +kernel
theorem tyX3_ok : ∀ k, k < 5 → parseFieldDescriptor (TX3 k).2.2.1 = some (tyX3 k) := by decide +kernel
abbrev cX3_init : ByteArray := prog_5_method_1_code
def yX3_init : MethodName := ⟨RX3, "<init>", "()V"⟩
abbrev cX3_tell : ByteArray := prog_5_method_2_code
def yX3_tell : MethodName := ⟨RX3, "tell", "(IIII)Z"⟩
abbrev cX3_priceOf : ByteArray := prog_5_method_3_code
def yX3_priceOf : MethodName := ⟨RX3, "priceOf", "(LHarbourTugs$Harbour;LHarbourTugs$Ship;)J"⟩
abbrev cX3_isSo : ByteArray := prog_5_method_4_code
def yX3_isSo : MethodName := ⟨RX3, "isSo", "(IILHarbourTugs$Harbour;LHarbourTugs$Ship;)Z"⟩
def RX4 : String := "HarbourTugs$Ship"
def TX4 : u_T := fun k => match k with
  | 0 => ("HarbourTugs$Ship", "size", "I", false)
  | 1 => ("HarbourTugs$Ship", "draft", "I", false)
  | 2 => ("HarbourTugs$Ship", "ready", "I", false)
  | 3 => ("HarbourTugs$Ship", "length", "I", false)
  | 4 => ("HarbourTugs$Ship", "weight", "I", false)
  | 5 => ("HarbourTugs$Ship", "from", "I", false)
  | 6 => ("HarbourTugs$Ship", "to", "I", false)
  | 7 => ("HarbourTugs$Ship", "hour", "I", false)
  | _ => ("HarbourTugs$Ship", "set", "I", false)
def tyX4 : Nat → FieldType := fun k => match k with
  | 0 => .int
  | 1 => .int
  | 2 => .int
  | 3 => .int
  | 4 => .int
  | 5 => .int
  | 6 => .int
  | 7 => .int
  | _ => .int
abbrev wsX40 : List Cond := u_ws RX4 TX4 9
theorem nmX4 : ∀ a, a < 9 → ∀ b, b < 9 → a ≠ b → (TX4 a).2.1 ≠ (TX4 b).2.1 := by decide +kernel
theorem tyX4_ok : ∀ k, k < 9 → parseFieldDescriptor (TX4 k).2.2.1 = some (tyX4 k) := by decide +kernel
abbrev cX4_init : ByteArray := prog_6_method_1_code
def yX4_init : MethodName := ⟨RX4, "<init>", "()V"⟩
abbrev cX4_come : ByteArray := prog_6_method_2_code
def yX4_come : MethodName := ⟨RX4, "come", "(IIIIIII)V"⟩
abbrev cX4_copyFrom : ByteArray := prog_6_method_3_code
def yX4_copyFrom : MethodName := ⟨RX4, "copyFrom", "(LHarbourTugs$Ship;)V"⟩
abbrev cX4_hasJob : ByteArray := prog_6_method_4_code
def yX4_hasJob : MethodName := ⟨RX4, "hasJob", "()Z"⟩
abbrev cX4_hasJobWith : ByteArray := prog_6_method_5_code
def yX4_hasJobWith : MethodName := ⟨RX4, "hasJobWith", "(I)Z"⟩
abbrev cX4_dropJob : ByteArray := prog_6_method_6_code
def yX4_dropJob : MethodName := ⟨RX4, "dropJob", "()V"⟩
abbrev cX4_lastHour : ByteArray := prog_6_method_7_code
def yX4_lastHour : MethodName := ⟨RX4, "lastHour", "()I"⟩
abbrev cX4_isInTime : ByteArray := prog_6_method_8_code
def yX4_isInTime : MethodName := ⟨RX4, "isInTime", "(I)Z"⟩
abbrev cX4_hoursFrom : ByteArray := prog_6_method_9_code
def yX4_hoursFrom : MethodName := ⟨RX4, "hoursFrom", "(I)J"⟩
abbrev cX4_jobHours : ByteArray := prog_6_method_10_code
def yX4_jobHours : MethodName := ⟨RX4, "jobHours", "()J"⟩
abbrev cX4_waited : ByteArray := prog_6_method_11_code
def yX4_waited : MethodName := ⟨RX4, "waited", "()I"⟩
def RX5 : String := "HarbourTugs$Tug"
def TX5 : u_T := fun k => match k with
  | 0 => ("HarbourTugs$Tug", "firm", "I", false)
  | 1 => ("HarbourTugs$Tug", "pull", "I", false)
  | 2 => ("HarbourTugs$Tug", "kind", "I", false)
  | 3 => ("HarbourTugs$Tug", "fuelFirst", "I", false)
  | 4 => ("HarbourTugs$Tug", "tank", "I", false)
  | 5 => ("HarbourTugs$Tug", "crew", "I", false)
  | 6 => ("HarbourTugs$Tug", "home", "I", false)
  | 7 => ("HarbourTugs$Tug", "brokenFrom", "I", false)
  | 8 => ("HarbourTugs$Tug", "work", "J", false)
  | _ => ("HarbourTugs$Tug", "bunkers", "J", false)
def tyX5 : Nat → FieldType := fun k => match k with
  | 0 => .int
  | 1 => .int
  | 2 => .int
  | 3 => .int
  | 4 => .int
  | 5 => .int
  | 6 => .int
  | 7 => .int
  | 8 => .long
  | _ => .long
abbrev wsX50 : List Cond := u_ws RX5 TX5 10
theorem nmX5 : ∀ a, a < 10 → ∀ b, b < 10 → a ≠ b → (TX5 a).2.1 ≠ (TX5 b).2.1 := by decide +kernel
theorem tyX5_ok : ∀ k, k < 10 → parseFieldDescriptor (TX5 k).2.2.1 = some (tyX5 k) := by decide +kernel
abbrev cX5_init : ByteArray := prog_7_method_1_code
def yX5_init : MethodName := ⟨RX5, "<init>", "()V"⟩
abbrev cX5_come : ByteArray := prog_7_method_2_code
def yX5_come : MethodName := ⟨RX5, "come", "(IIIIIII)V"⟩
abbrev cX5_copyFrom : ByteArray := prog_7_method_3_code
def yX5_copyFrom : MethodName := ⟨RX5, "copyFrom", "(LHarbourTugs$Tug;)V"⟩
abbrev cX5_isBroken : ByteArray := prog_7_method_4_code
def yX5_isBroken : MethodName := ⟨RX5, "isBroken", "(I)Z"⟩
abbrev cX5_makeWhole : ByteArray := prog_7_method_5_code
def yX5_makeWhole : MethodName := ⟨RX5, "makeWhole", "()Z"⟩
abbrev cX5_isFree : ByteArray := prog_7_method_6_code
def yX5_isFree : MethodName := ⟨RX5, "isFree", "(J)Z"⟩
abbrev cX5_fuelBehind : ByteArray := prog_7_method_7_code
def yX5_fuelBehind : MethodName := ⟨RX5, "fuelBehind", "(I)I"⟩
abbrev cX5_fuelLasts : ByteArray := prog_7_method_8_code
def yX5_fuelLasts : MethodName := ⟨RX5, "fuelLasts", "(J)Z"⟩
abbrev cX5_fuelAfter : ByteArray := prog_7_method_9_code
def yX5_fuelAfter : MethodName := ⟨RX5, "fuelAfter", "(IIJ)I"⟩
abbrev cX5_crewRests : ByteArray := prog_7_method_10_code
def yX5_crewRests : MethodName := ⟨RX5, "crewRests", "(JI)Z"⟩
def RX6 : String := "HarbourTugs"
def TX6 : u_T := fun k => match k with
  | 0 => ("HarbourTugs", "berths", "LHarbourTugs$Berths;", true)
  | 1 => ("HarbourTugs", "now", "LHarbourTugs$Harbour;", true)
  | 2 => ("HarbourTugs", "planner", "LHarbourTugs$Planner;", true)
  | 3 => ("HarbourTugs", "prices", "LHarbourTugs$Prices;", true)
  | 4 => ("HarbourTugs", "kept", "[LHarbourTugs$Harbour;", true)
  | _ => ("HarbourTugs", "keptCount", "I", false)
def tyX6 : Nat → FieldType := fun k => match k with
  | 0 => .object "HarbourTugs$Berths"
  | 1 => .object "HarbourTugs$Harbour"
  | 2 => .object "HarbourTugs$Planner"
  | 3 => .object "HarbourTugs$Prices"
  | 4 => .array (.object "HarbourTugs$Harbour")
  | _ => .int
abbrev wsX60 : List Cond := u_ws RX6 TX6 6
theorem nmX6 : ∀ a, a < 6 → ∀ b, b < 6 → a ≠ b → (TX6 a).2.1 ≠ (TX6 b).2.1 := by decide +kernel
theorem tyX6_ok : ∀ k, k < 6 → parseFieldDescriptor (TX6 k).2.2.1 = some (tyX6 k) := by decide +kernel
abbrev cX6_init : ByteArray := prog_1_method_1_code
def yX6_init : MethodName := ⟨RX6, "<init>", "()V"⟩
abbrev cX6_tide : ByteArray := prog_1_method_2_code
def yX6_tide : MethodName := ⟨RX6, "tide", "(II)I"⟩
abbrev cX6_wind : ByteArray := prog_1_method_3_code
def yX6_wind : MethodName := ⟨RX6, "wind", "(II)I"⟩
abbrev cX6_rule : ByteArray := prog_1_method_4_code
def yX6_rule : MethodName := ⟨RX6, "rule", "(II)I"⟩
abbrev cX6_berth : ByteArray := prog_1_method_5_code
def yX6_berth : MethodName := ⟨RX6, "berth", "(III)I"⟩
abbrev cX6_way : ByteArray := prog_1_method_6_code
def yX6_way : MethodName := ⟨RX6, "way", "(II)I"⟩
abbrev cX6_tug : ByteArray := prog_1_method_7_code
def yX6_tug : MethodName := ⟨RX6, "tug", "(IIIIIII)I"⟩
abbrev cX6_ship : ByteArray := prog_1_method_8_code
def yX6_ship : MethodName := ⟨RX6, "ship", "(IIIIIII)I"⟩
abbrev cX6_needs : ByteArray := prog_1_method_9_code
def yX6_needs : MethodName := ⟨RX6, "needs", "(II)I"⟩
abbrev cX6_bunker : ByteArray := prog_1_method_10_code
def yX6_bunker : MethodName := ⟨RX6, "bunker", "(II)I"⟩
abbrev cX6_fuel : ByteArray := prog_1_method_11_code
def yX6_fuel : MethodName := ⟨RX6, "fuel", "(II)I"⟩
abbrev cX6_may : ByteArray := prog_1_method_12_code
def yX6_may : MethodName := ⟨RX6, "may", "(III)I"⟩
abbrev cX6_lay : ByteArray := prog_1_method_13_code
def yX6_lay : MethodName := ⟨RX6, "lay", "(III)I"⟩
abbrev cX6_off : ByteArray := prog_1_method_14_code
def yX6_off : MethodName := ⟨RX6, "off", "(I)I"⟩
abbrev cX6_best : ByteArray := prog_1_method_15_code
def yX6_best : MethodName := ⟨RX6, "best", "(II)I"⟩
abbrev cX6_job : ByteArray := prog_1_method_16_code
def yX6_job : MethodName := ⟨RX6, "job", "(II)I"⟩
abbrev cX6_order : ByteArray := prog_1_method_17_code
def yX6_order : MethodName := ⟨RX6, "order", "(II)I"⟩
abbrev cX6_layOrder : ByteArray := prog_1_method_18_code
def yX6_layOrder : MethodName := ⟨RX6, "layOrder", "(I)I"⟩
abbrev cX6_mended : ByteArray := prog_1_method_19_code
def yX6_mended : MethodName := ⟨RX6, "mended", "(II)I"⟩
abbrev cX6_layMended : ByteArray := prog_1_method_20_code
def yX6_layMended : MethodName := ⟨RX6, "layMended", "(I)I"⟩
abbrev cX6_breaks : ByteArray := prog_1_method_21_code
def yX6_breaks : MethodName := ⟨RX6, "breaks", "(II)I"⟩
abbrev cX6_mend : ByteArray := prog_1_method_22_code
def yX6_mend : MethodName := ⟨RX6, "mend", "(I)I"⟩
abbrev cX6_storm : ByteArray := prog_1_method_23_code
def yX6_storm : MethodName := ⟨RX6, "storm", "(II)I"⟩
abbrev cX6_calm : ByteArray := prog_1_method_24_code
def yX6_calm : MethodName := ⟨RX6, "calm", "()I"⟩
abbrev cX6_priceRule : ByteArray := prog_1_method_25_code
def yX6_priceRule : MethodName := ⟨RX6, "priceRule", "(IIII)I"⟩
abbrev cX6_price : ByteArray := prog_1_method_26_code
def yX6_price : MethodName := ⟨RX6, "price", "(I)J"⟩
abbrev cX6_pool : ByteArray := prog_1_method_27_code
def yX6_pool : MethodName := ⟨RX6, "pool", "(II)I"⟩
abbrev cX6_work : ByteArray := prog_1_method_28_code
def yX6_work : MethodName := ⟨RX6, "work", "(II)J"⟩
abbrev cX6_about : ByteArray := prog_1_method_29_code
def yX6_about : MethodName := ⟨RX6, "about", "(II)I"⟩
abbrev cX6_keep : ByteArray := prog_1_method_30_code
def yX6_keep : MethodName := ⟨RX6, "keep", "()I"⟩
abbrev cX6_back : ByteArray := prog_1_method_31_code
def yX6_back : MethodName := ⟨RX6, "back", "()I"⟩
abbrev cX6_count : ByteArray := prog_1_method_32_code
def yX6_count : MethodName := ⟨RX6, "count", "(I)I"⟩
abbrev cX6_within : ByteArray := prog_1_method_33_code
def yX6_within : MethodName := ⟨RX6, "within", "(III)Z"⟩
abbrev cX6_isHour : ByteArray := prog_1_method_34_code
def yX6_isHour : MethodName := ⟨RX6, "isHour", "(I)Z"⟩
abbrev cX6_isBerth : ByteArray := prog_1_method_35_code
def yX6_isBerth : MethodName := ⟨RX6, "isBerth", "(I)Z"⟩
abbrev cX6_isTug : ByteArray := prog_1_method_36_code
def yX6_isTug : MethodName := ⟨RX6, "isTug", "(I)Z"⟩
abbrev cX6_isShip : ByteArray := prog_1_method_37_code
def yX6_isShip : MethodName := ⟨RX6, "isShip", "(I)Z"⟩
abbrev cX6_isSet : ByteArray := prog_1_method_38_code
def yX6_isSet : MethodName := ⟨RX6, "isSet", "(I)Z"⟩
abbrev cX6_isPlanned : ByteArray := prog_1_method_39_code
def yX6_isPlanned : MethodName := ⟨RX6, "isPlanned", "(I)Z"⟩
abbrev cX6_hoursAhead : ByteArray := prog_1_method_40_code
def yX6_hoursAhead : MethodName := ⟨RX6, "hoursAhead", "(I)J"⟩
abbrev cX6_isIn : ByteArray := prog_1_method_41_code
def yX6_isIn : MethodName := ⟨RX6, "isIn", "(II)Z"⟩
def RX7 : String := "HarbourTugsModel"
def TX7 : u_T := fun k => match k with
  | 0 => ("HarbourTugsModel", "m", "[J", true)
  | 1 => ("HarbourTugsModel", "kept", "[J", true)
  | 2 => ("HarbourTugsModel", "keptMany", "I", false)
  | 3 => ("HarbourTugsModel", "place", "[I", true)
  | 4 => ("HarbourTugsModel", "basin", "[I", true)
  | 5 => ("HarbourTugsModel", "rules", "I", false)
  | 6 => ("HarbourTugsModel", "test", "[I", true)
  | 7 => ("HarbourTugsModel", "value", "[I", true)
  | 8 => ("HarbourTugsModel", "kindOf", "[I", true)
  | 9 => ("HarbourTugsModel", "amount", "[I", true)
  | 10 => ("HarbourTugsModel", "bestHour", "I", false)
  | 11 => ("HarbourTugsModel", "bestSet", "I", false)
  | 12 => ("HarbourTugsModel", "aside", "[J", true)
  | 13 => ("HarbourTugsModel", "leastWaited", "I", false)
  | 14 => ("HarbourTugsModel", "mendedMany", "I", false)
  | 15 => ("HarbourTugsModel", "mendedOff", "I", false)
  | 16 => ("HarbourTugsModel", "mendedWaited", "I", false)
  | _ => ("HarbourTugsModel", "mendedSet", "I", false)
def tyX7 : Nat → FieldType := fun k => match k with
  | 0 => .array .long
  | 1 => .array .long
  | 2 => .int
  | 3 => .array .int
  | 4 => .array .int
  | 5 => .int
  | 6 => .array .int
  | 7 => .array .int
  | 8 => .array .int
  | 9 => .array .int
  | 10 => .int
  | 11 => .int
  | 12 => .array .long
  | 13 => .int
  | 14 => .int
  | 15 => .int
  | 16 => .int
  | _ => .int
abbrev wsX70 : List Cond := u_ws RX7 TX7 18
theorem nmX7 : ∀ a, a < 18 → ∀ b, b < 18 → a ≠ b → (TX7 a).2.1 ≠ (TX7 b).2.1 := by decide +kernel
theorem tyX7_ok : ∀ k, k < 18 → parseFieldDescriptor (TX7 k).2.2.1 = some (tyX7 k) := by decide +kernel
abbrev cX7_init : ByteArray := prog_9_method_1_code
def yX7_init : MethodName := ⟨RX7, "<init>", "()V"⟩
abbrev cX7_in : ByteArray := prog_9_method_2_code
def yX7_in : MethodName := ⟨RX7, "in", "(JJJ)Z"⟩
abbrev cX7_isHour : ByteArray := prog_9_method_3_code
def yX7_isHour : MethodName := ⟨RX7, "isHour", "(I)Z"⟩
abbrev cX7_ofTug : ByteArray := prog_9_method_4_code
def yX7_ofTug : MethodName := ⟨RX7, "ofTug", "(II)I"⟩
abbrev cX7_ofShip : ByteArray := prog_9_method_5_code
def yX7_ofShip : MethodName := ⟨RX7, "ofShip", "(II)I"⟩
abbrev cX7_isTug : ByteArray := prog_9_method_6_code
def yX7_isTug : MethodName := ⟨RX7, "isTug", "(I)Z"⟩
abbrev cX7_isShip : ByteArray := prog_9_method_7_code
def yX7_isShip : MethodName := ⟨RX7, "isShip", "(I)Z"⟩
abbrev cX7_isBerth : ByteArray := prog_9_method_8_code
def yX7_isBerth : MethodName := ⟨RX7, "isBerth", "(I)Z"⟩
abbrev cX7_tide : ByteArray := prog_9_method_9_code
def yX7_tide : MethodName := ⟨RX7, "tide", "(II)I"⟩
abbrev cX7_wind : ByteArray := prog_9_method_10_code
def yX7_wind : MethodName := ⟨RX7, "wind", "(II)I"⟩
abbrev cX7_rule : ByteArray := prog_9_method_11_code
def yX7_rule : MethodName := ⟨RX7, "rule", "(II)I"⟩
abbrev cX7_hasJob : ByteArray := prog_9_method_12_code
def yX7_hasJob : MethodName := ⟨RX7, "hasJob", "(I)Z"⟩
abbrev cX7_berth : ByteArray := prog_9_method_13_code
def yX7_berth : MethodName := ⟨RX7, "berth", "(III)I"⟩
abbrev cX7_wayOf : ByteArray := prog_9_method_14_code
def yX7_wayOf : MethodName := ⟨RX7, "wayOf", "(II)I"⟩
abbrev cX7_way : ByteArray := prog_9_method_15_code
def yX7_way : MethodName := ⟨RX7, "way", "(II)I"⟩
abbrev cX7_tug : ByteArray := prog_9_method_16_code
def yX7_tug : MethodName := ⟨RX7, "tug", "(IIIIIII)I"⟩
abbrev cX7_ship : ByteArray := prog_9_method_17_code
def yX7_ship : MethodName := ⟨RX7, "ship", "(IIIIIII)I"⟩
abbrev cX7_needsOf : ByteArray := prog_9_method_18_code
def yX7_needsOf : MethodName := ⟨RX7, "needsOf", "(II)I"⟩
abbrev cX7_needs : ByteArray := prog_9_method_19_code
def yX7_needs : MethodName := ⟨RX7, "needs", "(II)I"⟩
abbrev cX7_has : ByteArray := prog_9_method_20_code
def yX7_has : MethodName := ⟨RX7, "has", "(JI)Z"⟩
abbrev cX7_hours : ByteArray := prog_9_method_21_code
def yX7_hours : MethodName := ⟨RX7, "hours", "(II)J"⟩
abbrev cX7_workOf : ByteArray := prog_9_method_22_code
def yX7_workOf : MethodName := ⟨RX7, "workOf", "(I)J"⟩
abbrev cX7_bunkersOf : ByteArray := prog_9_method_23_code
def yX7_bunkersOf : MethodName := ⟨RX7, "bunkersOf", "(I)J"⟩
abbrev cX7_fuelBehind : ByteArray := prog_9_method_24_code
def yX7_fuelBehind : MethodName := ⟨RX7, "fuelBehind", "(IJI)I"⟩
abbrev cX7_fuel : ByteArray := prog_9_method_25_code
def yX7_fuel : MethodName := ⟨RX7, "fuel", "(II)I"⟩
abbrev cX7_bunker : ByteArray := prog_9_method_26_code
def yX7_bunker : MethodName := ⟨RX7, "bunker", "(II)I"⟩
abbrev cX7_pullOf : ByteArray := prog_9_method_27_code
def yX7_pullOf : MethodName := ⟨RX7, "pullOf", "(I)I"⟩
abbrev cX7_rests : ByteArray := prog_9_method_28_code
def yX7_rests : MethodName := ⟨RX7, "rests", "(IJ)Z"⟩
abbrev cX7_last : ByteArray := prog_9_method_29_code
def yX7_last : MethodName := ⟨RX7, "last", "(I)I"⟩
abbrev cX7_isOf : ByteArray := prog_9_method_30_code
def yX7_isOf : MethodName := ⟨RX7, "isOf", "(II)Z"⟩
abbrev cX7_comes : ByteArray := prog_9_method_31_code
def yX7_comes : MethodName := ⟨RX7, "comes", "(III)Z"⟩
abbrev cX7_fails : ByteArray := prog_9_method_32_code
def yX7_fails : MethodName := ⟨RX7, "fails", "(IIII)Z"⟩
abbrev cX7_isBarred : ByteArray := prog_9_method_33_code
def yX7_isBarred : MethodName := ⟨RX7, "isBarred", "(II)Z"⟩
abbrev cX7_failsAlone : ByteArray := prog_9_method_34_code
def yX7_failsAlone : MethodName := ⟨RX7, "failsAlone", "(III)Z"⟩
abbrev cX7_failsTogether : ByteArray := prog_9_method_35_code
def yX7_failsTogether : MethodName := ⟨RX7, "failsTogether", "(IIII)Z"⟩
abbrev cX7_failsBy : ByteArray := prog_9_method_36_code
def yX7_failsBy : MethodName := ⟨RX7, "failsBy", "(IIII)Z"⟩
abbrev cX7_whyNot : ByteArray := prog_9_method_37_code
def yX7_whyNot : MethodName := ⟨RX7, "whyNot", "(III)I"⟩
abbrev cX7_isSet : ByteArray := prog_9_method_38_code
def yX7_isSet : MethodName := ⟨RX7, "isSet", "(I)Z"⟩
abbrev cX7_may : ByteArray := prog_9_method_39_code
def yX7_may : MethodName := ⟨RX7, "may", "(III)I"⟩
abbrev cX7_lays : ByteArray := prog_9_method_40_code
def yX7_lays : MethodName := ⟨RX7, "lays", "(III)V"⟩
abbrev cX7_lay : ByteArray := prog_9_method_41_code
def yX7_lay : MethodName := ⟨RX7, "lay", "(III)I"⟩
abbrev cX7_takes : ByteArray := prog_9_method_42_code
def yX7_takes : MethodName := ⟨RX7, "takes", "(II)I"⟩
abbrev cX7_off : ByteArray := prog_9_method_43_code
def yX7_off : MethodName := ⟨RX7, "off", "(I)I"⟩
abbrev cX7_bits : ByteArray := prog_9_method_44_code
def yX7_bits : MethodName := ⟨RX7, "bits", "(I)I"⟩
abbrev cX7_isBetter : ByteArray := prog_9_method_45_code
def yX7_isBetter : MethodName := ⟨RX7, "isBetter", "(II)Z"⟩
abbrev cX7_finds : ByteArray := prog_9_method_46_code
def yX7_finds : MethodName := ⟨RX7, "finds", "(I)Z"⟩
abbrev cX7_best : ByteArray := prog_9_method_47_code
def yX7_best : MethodName := ⟨RX7, "best", "(II)I"⟩
abbrev cX7_job : ByteArray := prog_9_method_48_code
def yX7_job : MethodName := ⟨RX7, "job", "(II)I"⟩
abbrev cX7_asides : ByteArray := prog_9_method_49_code
def yX7_asides : MethodName := ⟨RX7, "asides", "()V"⟩
abbrev cX7_returns : ByteArray := prog_9_method_50_code
def yX7_returns : MethodName := ⟨RX7, "returns", "()V"⟩
abbrev cX7_empties : ByteArray := prog_9_method_51_code
def yX7_empties : MethodName := ⟨RX7, "empties", "()V"⟩
abbrev cX7_waited : ByteArray := prog_9_method_52_code
def yX7_waited : MethodName := ⟨RX7, "waited", "(I)I"⟩
abbrev cX7_ordered : ByteArray := prog_9_method_53_code
def yX7_ordered : MethodName := ⟨RX7, "ordered", "(II)I"⟩
abbrev cX7_plans : ByteArray := prog_9_method_54_code
def yX7_plans : MethodName := ⟨RX7, "plans", "(II)I"⟩
abbrev cX7_isMany : ByteArray := prog_9_method_55_code
def yX7_isMany : MethodName := ⟨RX7, "isMany", "(I)Z"⟩
abbrev cX7_bestOrder : ByteArray := prog_9_method_56_code
def yX7_bestOrder : MethodName := ⟨RX7, "bestOrder", "(I)I"⟩
abbrev cX7_order : ByteArray := prog_9_method_57_code
def yX7_order : MethodName := ⟨RX7, "order", "(II)I"⟩
abbrev cX7_layOrder : ByteArray := prog_9_method_58_code
def yX7_layOrder : MethodName := ⟨RX7, "layOrder", "(I)I"⟩
abbrev cX7_tries : ByteArray := prog_9_method_59_code
def yX7_tries : MethodName := ⟨RX7, "tries", "(II)I"⟩
abbrev cX7_mends : ByteArray := prog_9_method_60_code
def yX7_mends : MethodName := ⟨RX7, "mends", "(I)V"⟩
abbrev cX7_mended : ByteArray := prog_9_method_61_code
def yX7_mended : MethodName := ⟨RX7, "mended", "(II)I"⟩
abbrev cX7_layMended : ByteArray := prog_9_method_62_code
def yX7_layMended : MethodName := ⟨RX7, "layMended", "(I)I"⟩
abbrev cX7_goesOn : ByteArray := prog_9_method_63_code
def yX7_goesOn : MethodName := ⟨RX7, "goesOn", "(III)Z"⟩
abbrev cX7_breaks : ByteArray := prog_9_method_64_code
def yX7_breaks : MethodName := ⟨RX7, "breaks", "(II)I"⟩
abbrev cX7_mend : ByteArray := prog_9_method_65_code
def yX7_mend : MethodName := ⟨RX7, "mend", "(I)I"⟩
abbrev cX7_storm : ByteArray := prog_9_method_66_code
def yX7_storm : MethodName := ⟨RX7, "storm", "(II)I"⟩
abbrev cX7_hoursIn : ByteArray := prog_9_method_67_code
def yX7_hoursIn : MethodName := ⟨RX7, "hoursIn", "(J)I"⟩
abbrev cX7_calm : ByteArray := prog_9_method_68_code
def yX7_calm : MethodName := ⟨RX7, "calm", "()I"⟩
abbrev cX7_priceRule : ByteArray := prog_9_method_69_code
def yX7_priceRule : MethodName := ⟨RX7, "priceRule", "(IIII)I"⟩
abbrev cX7_passes : ByteArray := prog_9_method_70_code
def yX7_passes : MethodName := ⟨RX7, "passes", "(II)Z"⟩
abbrev cX7_price : ByteArray := prog_9_method_71_code
def yX7_price : MethodName := ⟨RX7, "price", "(I)J"⟩
abbrev cX7_pool : ByteArray := prog_9_method_72_code
def yX7_pool : MethodName := ⟨RX7, "pool", "(II)I"⟩
abbrev cX7_work : ByteArray := prog_9_method_73_code
def yX7_work : MethodName := ⟨RX7, "work", "(II)J"⟩
abbrev cX7_berthOf : ByteArray := prog_9_method_74_code
def yX7_berthOf : MethodName := ⟨RX7, "berthOf", "(I)I"⟩
abbrev cX7_about : ByteArray := prog_9_method_75_code
def yX7_about : MethodName := ⟨RX7, "about", "(II)I"⟩
abbrev cX7_keep : ByteArray := prog_9_method_76_code
def yX7_keep : MethodName := ⟨RX7, "keep", "()I"⟩
abbrev cX7_back : ByteArray := prog_9_method_77_code
def yX7_back : MethodName := ⟨RX7, "back", "()I"⟩
abbrev cX7_count : ByteArray := prog_9_method_78_code
def yX7_count : MethodName := ⟨RX7, "count", "(I)I"⟩
def RJ6 : String := "java/lang/Integer"
def TJ6 : u_T := fun k => match k with
  | _ => ("", "", "", false)
def tyJ6 : Nat → FieldType := fun k => match k with
  | _ => .int
abbrev wsJ60 : List Cond := u_ws RJ6 TJ6 0
theorem nmJ6 : ∀ a, a < 0 → ∀ b, b < 0 → a ≠ b → (TJ6 a).2.1 ≠ (TJ6 b).2.1 := by decide +kernel
theorem tyJ6_ok : ∀ k, k < 0 → parseFieldDescriptor (TJ6 k).2.2.1 = some (tyJ6 k) := by decide +kernel
abbrev cJ6_bitCount_0f7a4 : ByteArray := prog_10_method_49_code
def yJ6_bitCount_0f7a4 : MethodName := ⟨RJ6, "bitCount", "(I)I"⟩
def RJ13 : String := "java/lang/Long"
def TJ13 : u_T := fun k => match k with
  | _ => ("", "", "", false)
def tyJ13 : Nat → FieldType := fun k => match k with
  | _ => .int
abbrev wsJ130 : List Cond := u_ws RJ13 TJ13 0
theorem nmJ13 : ∀ a, a < 0 → ∀ b, b < 0 → a ≠ b → (TJ13 a).2.1 ≠ (TJ13 b).2.1 := by decide +kernel
theorem tyJ13_ok : ∀ k, k < 0 → parseFieldDescriptor (TJ13 k).2.2.1 = some (tyJ13 k) := by decide +kernel
abbrev cJ13_bitCount_95d88 : ByteArray := prog_11_method_50_code
def yJ13_bitCount_95d88 : MethodName := ⟨RJ13, "bitCount", "(J)I"⟩
def RJ9 : String := "java/lang/Math"
def TJ9 : u_T := fun k => match k with
  | _ => ("", "", "", false)
def tyJ9 : Nat → FieldType := fun k => match k with
  | _ => .int
abbrev wsJ90 : List Cond := u_ws RJ9 TJ9 0
theorem nmJ9 : ∀ a, a < 0 → ∀ b, b < 0 → a ≠ b → (TJ9 a).2.1 ≠ (TJ9 b).2.1 := by decide +kernel
theorem tyJ9_ok : ∀ k, k < 0 → parseFieldDescriptor (TJ9 k).2.2.1 = some (tyJ9 k) := by decide +kernel
abbrev cJ9_max_7cf53 : ByteArray := prog_12_method_65_code
def yJ9_max_7cf53 : MethodName := ⟨RJ9, "max", "(II)I"⟩
def RJ10 : String := "java/lang/System"
def TJ10 : u_T := fun k => match k with
  | _ => ("", "", "", false)
def tyJ10 : Nat → FieldType := fun k => match k with
  | _ => .int
abbrev wsJ100 : List Cond := u_ws RJ10 TJ10 0
theorem nmJ10 : ∀ a, a < 0 → ∀ b, b < 0 → a ≠ b → (TJ10 a).2.1 ≠ (TJ10 b).2.1 := by decide +kernel
theorem tyJ10_ok : ∀ k, k < 0 → parseFieldDescriptor (TJ10 k).2.2.1 = some (tyJ10 k) := by decide +kernel
def RL : String := "HarbourTugsLaw"
abbrev cL_law : ByteArray := code
def yL_law : MethodName := ⟨RL, "law", "([I)Z"⟩
abbrev vwCl : List vw_C := [(RX0, TX0, 2), (RX1, TX1, 16), (RX2, TX2, 7), (RX3, TX3, 5), (RX4, TX4, 9), (RX5, TX5, 10), (RX6, TX6, 6), (RX7, TX7, 18)]
end
section
/-! A small machine beside the kit's: values are ints, longs, null, and references by family and number; one predicate Ev says that it ends, with what. -/
abbrev AV : Type := (Int32 ⊕ Int64) ⊕ Option (Nat × Nat)
abbrev aI (x : Int32) : AV := .inl (.inl x)
abbrev aL (x : Int64) : AV := .inl (.inr x)
abbrev aN : AV := .inr none
abbrev aR (F i : Nat) : AV := .inr (some (F, i))
def cv (ad : Nat → Nat → Nat) : AV → Value
  | .inl (.inl x) => .int x
  | .inl (.inr x) => .long x
  | .inr none => .null
  | .inr (some a) => .ref (ad a.1 a.2)
def aCat : AV → Nat
  | .inl (.inr _) => 2
  | _ => 1
def aCats (st : List AV) : Nat := (st.map aCat).sum
/-- the state: the cells that are there, their ints, longs and references -/
abbrev DS : Type := List (Nat × Nat) × (Nat → Nat → Nat → Int32) × (Nat → Nat → Nat → Int64) × (Nat → Nat → Nat → Option Nat)
def sI (S : DS) (F i j : Nat) (x : Int32) : DS := (S.1, (fun F' i' => if F' = F ∧ i' = i then upd (S.2.1 F i) j x else S.2.1 F' i'), S.2.2.1, S.2.2.2)
def sL (S : DS) (F i j : Nat) (x : Int64) : DS := (S.1, S.2.1, (fun F' i' => if F' = F ∧ i' = i then vp_updL (S.2.2.1 F i) j x else S.2.2.1 F' i'), S.2.2.2)
def sQ (S : DS) (F i j : Nat) (x : Option Nat) : DS := (S.1, S.2.1, S.2.2.1, (fun F' i' => if F' = F ∧ i' = i then va_up (S.2.2.2 F i) j x else S.2.2.2 F' i'))
def sRow (S : DS) (F i : Nat) (f : Nat → Int32) : DS := (S.1, (fun F' i' => if F' = F ∧ i' = i then f else S.2.1 F' i'), S.2.2.1, S.2.2.2)
def cntF (L : List (Nat × Nat)) (F : Nat) : Nat := (L.filter (fun q => Nat.beq q.1 F)).length
/-- a new cell: all 0 and null -/
def sNew (S : DS) (F i : Nat) : DS := (S.1 ++ [(F, i)], (fun F' i' => if F' = F ∧ i' = i then (fun _ => 0) else S.2.1 F' i'), (fun F' i' => if F' = F ∧ i' = i then (fun _ => 0) else S.2.2.1 F' i'), (fun F' i' => if F' = F ∧ i' = i then (fun _ => none) else S.2.2.2 F' i'))
/-- kinds of the fields: 0 int, 1 long, n + 2 a reference into family n -/
def kdL : List (List Nat) := [[1008, 1008], [2, 1014, 1050, 5008, 4010, 0, 0, 0, 1, 0, 0, 0, 0, 0, 0, 0], [3, 1006, 1006, 1006, 0, 0, 0], [1014, 1014, 1014, 1014, 0], [0, 0, 0, 0, 0, 0, 0, 0, 0], [0, 0, 0, 0, 0, 0, 0, 0, 1, 1], [2, 3, 4, 5, 3005, 0], [2220, 2656, 0, 1008, 1008, 0, 1014, 1014, 1014, 1014, 0, 0, 2024, 0, 0, 0, 0, 0]]
def nfT (F : Nat) : Nat := (kdL.getD F []).length
def kdT (F j : Nat) : Nat := (kdL.getD F []).getD j 0
/-- the family that an array of references points into -/
def arT (F : Nat) : Nat := bif Nat.beq (F / 1000) 3 then 1 else bif Nat.beq (F / 1000) 4 then 4 else 5
/-- how many slots a cell has -/
def szF (F : Nat) : Nat := bif Nat.ble 1000 F then F % 1000 else nfT F
def slz (L : List (Nat × Nat)) : Nat := (L.map (fun q => szF q.1)).sum
def rdF (S : DS) (F i j : Nat) : Nat → AV
  | 0 => aI (S.2.1 F i j)
  | 1 => aL (S.2.2.1 F i j)
  | n + 2 => .inr ((S.2.2.2 F i j).map (fun q => (n, q)))
/-- putting a value into a field -/
def wrF (S : DS) (F i j : Nat) : Nat → AV → Option DS
  | 0, .inl (.inl x) => some (sI S F i j x)
  | 1, .inl (.inr x) => some (sL S F i j x)
  | n + 2, .inr (some a) => bif Nat.beq a.1 n then some (sQ S F i j (some a.2)) else none
  | _, _ => none
def klO : Option AV → Option AV
  | some (.inl (.inr _)) => none
  | o => o
def klL (loc : List (Option AV)) : Nat → List (Option AV)
  | 0 => loc
  | i + 1 => loc.set i (klO (loc.getD i none))
def lst1 (loc : List (Option AV)) (i : Nat) (v : AV) : Option (List (Option AV)) := bif Nat.blt i loc.length then some ((klL loc i).set i (some v)) else none
def lst2 (loc : List (Option AV)) (i : Nat) (v : AV) : Option (List (Option AV)) := bif Nat.blt (i + 1) loc.length then some (((klL loc i).set i (some v)).set (i + 1) none) else none
/-- the locals of a call -/
def locG : List AV → List (Option AV)
  | [] => []
  | .inl (.inr x) :: r => some (aL x) :: none :: locG r
  | v :: r => some v :: locG r
def locA (n : Nat) (as : List AV) : List (Option AV) := locG as ++ List.replicate (n - (locG as).length) none
abbrev Ent : Type := Instr × Nat × Nat × Nat × Int × List Nat
abbrev e0 (i : Instr) : Ent := (i, 0, 0, 0, 0, [])
/-- a method: name, bytes, locals, answer, frames, cells, slots, local words, entries -/
abbrev MI : Type := MethodName × ByteArray × Nat × Option FieldType × Nat × Nat × Nat × Nat × List (Nat × List (Nat × Ent))
def lkp (es : List (Nat × List (Nat × Ent))) (pc : Nat) : Option Ent := (es.find? (fun c => Nat.blt pc c.1)).bind (fun c => (c.2.find? (fun q => Nat.beq q.1 pc)).map (fun q => q.2))
def icT : ClassFile.Cond → Int32 → Int32 → Prop
  | .eq, x, y => x = y
  | .ne, x, y => x ≠ y
  | .lt, x, y => x < y
  | .ge, x, y => y ≤ x
  | .gt, x, y => y < x
  | .le, x, y => x ≤ y
/-- what calls are: a method's number, arguments, state, and what holds behind it -/
abbrev RC : Type := Nat → List AV → DS → (Option AV → DS → Prop) → Prop
abbrev KC : Type := Nat → List (Option AV) → List AV → DS → Prop
def oneI (k : KC) (pc : Nat) (loc : List (Option AV)) (st : List AV) (S : DS) (f : Int32 → AV) : Prop := ∃ x r, st = aI x :: r ∧ k (pc + 1) loc (f x :: r) S
def oneL (k : KC) (pc : Nat) (loc : List (Option AV)) (st : List AV) (S : DS) (f : Int64 → AV) : Prop := ∃ x r, st = aL x :: r ∧ k (pc + 1) loc (f x :: r) S
def twoI (k : KC) (pc : Nat) (loc : List (Option AV)) (st : List AV) (S : DS) (f : Int32 → Int32 → AV) : Prop := ∃ x y r, st = aI y :: aI x :: r ∧ k (pc + 1) loc (f x y :: r) S
def twoL (k : KC) (pc : Nat) (loc : List (Option AV)) (st : List AV) (S : DS) (f : Int64 → Int64 → AV) : Prop := ∃ x y r, st = aL y :: aL x :: r ∧ k (pc + 1) loc (f x y :: r) S
def twoLI (k : KC) (pc : Nat) (loc : List (Option AV)) (st : List AV) (S : DS) (f : Int64 → Int32 → AV) : Prop := ∃ x y r, st = aI y :: aL x :: r ∧ k (pc + 1) loc (f x y :: r) S
def lodI (k : KC) (pc : Nat) (loc : List (Option AV)) (st : List AV) (S : DS) (i : Nat) : Prop := ∃ x, loc[i]? = some (some (aI x)) ∧ k pc loc (aI x :: st) S
def lodL (k : KC) (pc : Nat) (loc : List (Option AV)) (st : List AV) (S : DS) (i : Nat) : Prop := ∃ x, loc[i]? = some (some (aL x)) ∧ k pc loc (aL x :: st) S
def lodR (k : KC) (pc : Nat) (loc : List (Option AV)) (st : List AV) (S : DS) (i : Nat) : Prop := ∃ o, loc[i]? = some (some (.inr o)) ∧ k pc loc (.inr o :: st) S
def stoI (k : KC) (pc : Nat) (loc : List (Option AV)) (st : List AV) (S : DS) (i : Nat) : Prop := ∃ x r l', st = aI x :: r ∧ lst1 loc i (aI x) = some l' ∧ k pc l' r S
def stoL (k : KC) (pc : Nat) (loc : List (Option AV)) (st : List AV) (S : DS) (i : Nat) : Prop := ∃ x r l', st = aL x :: r ∧ lst2 loc i (aL x) = some l' ∧ k pc l' r S
def stoR (k : KC) (pc : Nat) (loc : List (Option AV)) (st : List AV) (S : DS) (i : Nat) : Prop := ∃ o r l', st = .inr o :: r ∧ lst1 loc i (.inr o) = some l' ∧ k pc l' r S
def icon (k : KC) (pc : Nat) (loc : List (Option AV)) (st : List AV) (S : DS) (v : AV) : Prop := k pc loc (v :: st) S
/-- the refs of a call's arguments are no script's -/
def noScr : List AV → Bool
  | [] => true
  | .inr (some a) :: r => !(Nat.beq a.1 900) && noScr r
  | _ :: r => noScr r
def callK (R : RC) (mth : Nat → Option MI) (cap : Nat × Nat) (k : KC) (x n pc : Nat) (loc : List (Option AV)) (st : List AV) (S : DS) : Prop :=
  ∃ mi, mth x = some mi ∧ n ≤ st.length ∧ aCats (st.drop n) ≤ 8 ∧ noScr (st.take n) = true ∧ S.1.length + mi.2.2.2.2.2.1 ≤ cap.1 ∧ slz S.1 + mi.2.2.2.2.2.2.1 ≤ cap.2 ∧ ∃ Ψ : Option AV → DS → Prop, R x ((st.take n).reverse) S Ψ ∧ ∀ v S', Ψ v S' → k (pc + 3) loc (v.toList ++ st.drop n) S'
def StepI (R : RC) (mth : Nat → Option MI) (cap : Nat × Nat) (sc : Nat × (Nat → Int32)) (ret : Option AV → DS → Prop) (k : KC) (x y w : Nat) (z : Int) (tl : List Nat) (pc : Nat) (loc : List (Option AV)) (st : List AV) (S : DS) (ins : Instr) : Prop :=
  match ins with
  | .iload_n i => lodI k (pc + 1) loc st S i
  | .iload i => lodI k (pc + 2) loc st S i
  | .lload_n i => lodL k (pc + 1) loc st S i
  | .lload i => lodL k (pc + 2) loc st S i
  | .aload_n i => lodR k (pc + 1) loc st S i
  | .aload i => lodR k (pc + 2) loc st S i
  | .istore_n i => stoI k (pc + 1) loc st S i
  | .istore i => stoI k (pc + 2) loc st S i
  | .lstore_n i => stoL k (pc + 1) loc st S i
  | .lstore i => stoL k (pc + 2) loc st S i
  | .astore_n i => stoR k (pc + 1) loc st S i
  | .astore i => stoR k (pc + 2) loc st S i
  | .iinc i n => ∃ v l', loc[i]? = some (some (aI v)) ∧ lst1 loc i (aI (v + Int32.ofInt n)) = some l' ∧ k (pc + 3) l' st S
  | .iconst n => icon k (pc + 1) loc st S (aI (Int32.ofInt n))
  | .bipush n => icon k (pc + 2) loc st S (aI (Int8.ofInt n).toInt32)
  | .sipush n => icon k (pc + 3) loc st S (aI (Int16.ofInt n).toInt32)
  | .lconst n => icon k (pc + 1) loc st S (aL (Int64.ofNat (n : Nat)))
  | .aconst_null => icon k (pc + 1) loc st S aN
  | .ldc _ => icon k (pc + 2) loc st S (aI (Int32.ofInt z))
  | .ldc_w _ => icon k (pc + 3) loc st S (aI (Int32.ofInt z))
  | .ldc2_w _ => icon k (pc + 3) loc st S (aL (Int64.ofInt z))
  | .iadd => twoI k pc loc st S (fun a b => aI (a + b))
  | .isub => twoI k pc loc st S (fun a b => aI (a - b))
  | .imul => twoI k pc loc st S (fun a b => aI (a * b))
  | .iand => twoI k pc loc st S (fun a b => aI (a &&& b))
  | .ior => twoI k pc loc st S (fun a b => aI (a ||| b))
  | .ixor => twoI k pc loc st S (fun a b => aI (a ^^^ b))
  | .ishl => twoI k pc loc st S (fun a b => aI (a <<< (b &&& 31)))
  | .ishr => twoI k pc loc st S (fun a b => aI (a >>> (b &&& 31)))
  | .iushr => twoI k pc loc st S (fun a b => aI (a.toUInt32 >>> (b.toUInt32 &&& Int32.toUInt32 31)).toInt32)
  | .idiv => ∃ a b r, st = aI b :: aI a :: r ∧ ¬ b = 0 ∧ k (pc + 1) loc (aI (a / b) :: r) S
  | .irem => ∃ a b r, st = aI b :: aI a :: r ∧ ¬ b = 0 ∧ k (pc + 1) loc (aI (a - a / b * b) :: r) S
  | .ladd => twoL k pc loc st S (fun a b => aL (a + b))
  | .lsub => twoL k pc loc st S (fun a b => aL (a - b))
  | .lmul => twoL k pc loc st S (fun a b => aL (a * b))
  | .land => twoL k pc loc st S (fun a b => aL (a &&& b))
  | .lor => twoL k pc loc st S (fun a b => aL (a ||| b))
  | .lxor => twoL k pc loc st S (fun a b => aL (a ^^^ b))
  | .lcmp => twoL k pc loc st S (fun a b => aI (lg_cmp a b))
  | .ldiv => ∃ a b r, st = aL b :: aL a :: r ∧ ¬ b = 0 ∧ k (pc + 1) loc (aL (a / b) :: r) S
  | .lshl => twoLI k pc loc st S (fun a b => aL (a <<< (b.toInt64 &&& 63)))
  | .lshr => twoLI k pc loc st S (fun a b => aL (a >>> (b.toInt64 &&& 63)))
  | .lushr => twoLI k pc loc st S (fun a b => aL (a.toUInt64 >>> (b.toInt64.toUInt64 &&& Int64.toUInt64 63)).toInt64)
  | .i2l => oneI k pc loc st S (fun a => aL a.toInt64)
  | .l2i => oneL k pc loc st S (fun a => aI a.toInt32)
  | .dup => ∃ a r, st = a :: r ∧ aCat a = 1 ∧ k (pc + 1) loc (a :: a :: r) S
  | .dup2 => ∃ a b r, st = a :: b :: r ∧ aCat a = 1 ∧ aCat b = 1 ∧ k (pc + 1) loc (a :: b :: a :: b :: r) S
  | .pop => ∃ a r, st = a :: r ∧ aCat a = 1 ∧ k (pc + 1) loc r S
  | .goto _ => k x loc st S
  | .ifCond c _ => ∃ a r, st = aI a :: r ∧ (icT c a 0 → k x loc r S) ∧ (¬ icT c a 0 → k (pc + 3) loc r S)
  | .if_icmp c _ => ∃ a b r, st = aI b :: aI a :: r ∧ (icT c a b → k x loc r S) ∧ (¬ icT c a b → k (pc + 3) loc r S)
  | .ifnull _ => ∃ o r, st = .inr o :: r ∧ (o = none → k x loc r S) ∧ (∀ a, o = some a → k (pc + 3) loc r S)
  | .ifnonnull _ => ∃ o r, st = .inr o :: r ∧ (o = none → k (pc + 3) loc r S) ∧ (∀ a, o = some a → k x loc r S)
  | .tableswitch _ lo hi _ => ∃ v r, st = aI v :: r ∧ (v.toInt < lo ∨ hi < v.toInt → k x loc r S) ∧ (∀ (n t : Nat), tl[n]? = some t → v.toInt = lo + (n : Int) → k t loc r S)
  | .lookupswitch _ ps => ∃ v r, st = aI v :: r ∧ ((∀ q : Int × Int, q ∈ ps.toList → q.1 ≠ v.toInt) → k x loc r S) ∧ (∀ (n t : Nat) (q : Int × Int), tl[n]? = some t → ps.toList[n]? = some q → v.toInt = q.1 → k t loc r S)
  | .getfield _ => ∃ i r, st = aR x i :: r ∧ k (pc + 3) loc (rdF S x i y w :: r) S
  | .putfield _ => ∃ v i r S', st = v :: aR x i :: r ∧ wrF S x i y w v = some S' ∧ k (pc + 3) loc r S'
  | .iaload => (∃ n F i r, st = aI n :: aR F i :: r ∧ F / 1000 = 1 ∧ vp_in n (F % 1000) ∧ k (pc + 1) loc (aI (S.2.1 F i n.toNatClampNeg) :: r) S) ∨ (∃ n r, st = aI n :: aR 900 0 :: r ∧ vp_in n sc.1 ∧ k (pc + 1) loc (aI (sc.2 n.toNatClampNeg) :: r) S)
  | .laload => ∃ n F i r, st = aI n :: aR F i :: r ∧ F / 1000 = 2 ∧ vp_in n (F % 1000) ∧ k (pc + 1) loc (aL (S.2.2.1 F i n.toNatClampNeg) :: r) S
  | .aaload => ∃ n F i r, st = aI n :: aR F i :: r ∧ 3 ≤ F / 1000 ∧ vp_in n (F % 1000) ∧ k (pc + 1) loc (.inr ((S.2.2.2 F i n.toNatClampNeg).map (fun q => (arT F, q))) :: r) S
  | .iastore => ∃ v n F i r, st = aI v :: aI n :: aR F i :: r ∧ F / 1000 = 1 ∧ vp_in n (F % 1000) ∧ k (pc + 1) loc r (sI S F i n.toNatClampNeg v)
  | .lastore => ∃ v n F i r, st = aL v :: aI n :: aR F i :: r ∧ F / 1000 = 2 ∧ vp_in n (F % 1000) ∧ k (pc + 1) loc r (sL S F i n.toNatClampNeg v)
  | .aastore => ∃ u n F i r, st = aR (arT F) u :: aI n :: aR F i :: r ∧ 3 ≤ F / 1000 ∧ vp_in n (F % 1000) ∧ k (pc + 1) loc r (sQ S F i n.toNatClampNeg (some u))
  | .arraylength => (∃ F i r, st = aR F i :: r ∧ 1000 ≤ F ∧ k (pc + 1) loc (aI (Int32.ofNat (F % 1000)) :: r) S) ∨ (∃ r, st = aR 900 0 :: r ∧ k (pc + 1) loc (aI (Int32.ofNat sc.1) :: r) S)
  | .new _ => S.1.length + 1 ≤ cap.1 ∧ slz S.1 + nfT x ≤ cap.2 ∧ k (pc + 3) loc (aR x (cntF S.1 x) :: st) (sNew S x (cntF S.1 x))
  | .newarray _ => ∃ n r N, st = aI n :: r ∧ ¬ n < 0 ∧ n.toNatClampNeg = N ∧ N < 1000 ∧ S.1.length + 1 ≤ cap.1 ∧ slz S.1 + N ≤ cap.2 ∧ k (pc + 2) loc (aR (x + N) (cntF S.1 (x + N)) :: r) (sNew S (x + N) (cntF S.1 (x + N)))
  | .anewarray _ => ∃ n r N, st = aI n :: r ∧ ¬ n < 0 ∧ n.toNatClampNeg = N ∧ N < 1000 ∧ S.1.length + 1 ≤ cap.1 ∧ slz S.1 + N ≤ cap.2 ∧ k (pc + 3) loc (aR (x + N) (cntF S.1 (x + N)) :: r) (sNew S (x + N) (cntF S.1 (x + N)))
  | .invokevirtual _ => (∃ a i b, st[y]? = some (aR a i) ∧ a = b ∧ b = w / 10) ∧ callK R mth cap k x (y + 1) pc loc st S
  | .invokespecial _ => if w = 6 then ∃ F i r, st = aR F i :: r ∧ aCats r ≤ 8 ∧ k (pc + 3) loc r S else (∃ a i, st[y]? = some (aR a i)) ∧ callK R mth cap k x (y + 1) pc loc st S
  | .invokestatic _ => if w = 7 then ∃ n d F' i' s F i r, st = aI n :: aI d :: aR F' i' :: aI s :: aR F i :: r ∧ F / 1000 = 1 ∧ F' / 1000 = 1 ∧ ¬ s < 0 ∧ ¬ d < 0 ∧ ¬ n < 0 ∧ s.toNatClampNeg + n.toNatClampNeg ≤ F % 1000 ∧ d.toNatClampNeg + n.toNatClampNeg ≤ F' % 1000 ∧ aCats r ≤ 8 ∧ k (pc + 3) loc r (sRow S F' i' (va_cpy (S.2.1 F i) (S.2.1 F' i') s.toNatClampNeg d.toNatClampNeg n.toNatClampNeg)) else if w = 8 then ∃ a b r, st = aI b :: aI a :: r ∧ aCats r ≤ 8 ∧ S.1.length ≤ cap.1 ∧ slz S.1 ≤ cap.2 ∧ k (pc + 3) loc (aI (if a < b then b else a) :: r) S else callK R mth cap k x y pc loc st S
  | .ireturn => ∃ v, st = [aI v] ∧ ret (some (aI v)) S
  | .lreturn => ∃ v, st = [aL v] ∧ ret (some (aL v)) S
  | .areturn => ∃ o, st = [.inr o] ∧ ret (some (.inr o)) S
  | .return_ => st = [] ∧ ret none S
  | _ => False
def Step (R : RC) (mth : Nat → Option MI) (cap : Nat × Nat) (sc : Nat × (Nat → Int32)) (ret : Option AV → DS → Prop) (tb : Nat → Option Ent) (k : KC) (pc : Nat) (loc : List (Option AV)) (st : List AV) (S : DS) : Prop :=
  ∃ e : Ent, tb pc = some e ∧ StepI R mth cap sc ret k e.2.1 e.2.2.1 e.2.2.2.1 e.2.2.2.2.1 e.2.2.2.2.2 pc loc st S e.1
/-- from here it comes to an end with 'ret': the least such predicate -/
def Ev (R : RC) (mth : Nat → Option MI) (cap : Nat × Nat) (sc : Nat × (Nat → Int32)) (ret : Option AV → DS → Prop) (tb : Nat → Option Ent) (pc : Nat) (loc : List (Option AV)) (st : List AV) (S : DS) : Prop :=
  ∀ P : KC, (∀ pc loc st S, Step R mth cap sc ret tb P pc loc st S → P pc loc st S) → P pc loc st S
set_option maxHeartbeats 4000000 in
theorem StepI.mono {R : RC} {mth : Nat → Option MI} {cap : Nat × Nat} {sc : Nat × (Nat → Int32)} {ret : Option AV → DS → Prop} {k k' : KC} {x y w : Nat} {z : Int} {tl : List Nat} {pc : Nat} {loc : List (Option AV)} {st : List AV} {S : DS} {ins : Instr}
    (hk : ∀ pc loc st S, k pc loc st S → k' pc loc st S) (h : StepI R mth cap sc ret k x y w z tl pc loc st S ins) : StepI R mth cap sc ret k' x y w z tl pc loc st S ins := by
  have hc : ∀ n, callK R mth cap k x n pc loc st S → callK R mth cap k' x n pc loc st S := fun n ⟨mi, a1, a2, a3, a4, a5, a6, Ψ, a7, a8⟩ => ⟨mi, a1, a2, a3, a4, a5, a6, Ψ, a7, fun v S' h => hk _ _ _ _ (a8 v S' h)⟩
  cases ins <;> first
    | exact h
    | exact hk _ _ _ _ h
    | (obtain ⟨a1, a2, h⟩ := h; exact ⟨a1, a2, hk _ _ _ _ h⟩)
    | (obtain ⟨a1, a2, a3, h⟩ := h; exact ⟨a1, a2, a3, hk _ _ _ _ h⟩)
    | (obtain ⟨a1, a2, a3, a4, h⟩ := h; exact ⟨a1, a2, a3, a4, hk _ _ _ _ h⟩)
    | (obtain ⟨a1, a2, a3, a4, a5, h⟩ := h; exact ⟨a1, a2, a3, a4, a5, hk _ _ _ _ h⟩)
    | (obtain ⟨a1, a2, a3, a4, a5, a6, h⟩ := h; exact ⟨a1, a2, a3, a4, a5, a6, hk _ _ _ _ h⟩)
    | (obtain ⟨a1, a2, a3, a4, a5, a6, a7, h⟩ := h; exact ⟨a1, a2, a3, a4, a5, a6, a7, hk _ _ _ _ h⟩)
    | (obtain ⟨a1, a2, a3, a4, a5, a6, a7, a8, h⟩ := h; exact ⟨a1, a2, a3, a4, a5, a6, a7, a8, hk _ _ _ _ h⟩)
    | (obtain ⟨a1, a2, a3, a4, a5, a6, a7, a8, a9, h⟩ := h; exact ⟨a1, a2, a3, a4, a5, a6, a7, a8, a9, hk _ _ _ _ h⟩)
    | (obtain ⟨a1, a2, a3, h, h'⟩ := h; exact ⟨a1, a2, a3, fun q => hk _ _ _ _ (h q), fun q => hk _ _ _ _ (h' q)⟩)
    | (obtain ⟨a1, a2, a3, a4, h, h'⟩ := h; exact ⟨a1, a2, a3, a4, fun q => hk _ _ _ _ (h q), fun q => hk _ _ _ _ (h' q)⟩)
    | (obtain ⟨a1, a2, a3, h, h'⟩ := h; exact ⟨a1, a2, a3, fun q => hk _ _ _ _ (h q), fun a q => hk _ _ _ _ (h' a q)⟩)
    | (obtain ⟨a1, a2, a3, h, h'⟩ := h; exact ⟨a1, a2, a3, fun q => hk _ _ _ _ (h q), fun a b c q => hk _ _ _ _ (h' a b c q)⟩)
    | (obtain ⟨a1, a2, a3, h, h'⟩ := h; exact ⟨a1, a2, a3, fun q => hk _ _ _ _ (h q), fun a b c d e q => hk _ _ _ _ (h' a b c d e q)⟩)
    | (rcases h with ⟨a1, a2, a3, a4, a5, a6, a7, h⟩ | ⟨a1, a2, a3, a4, h⟩; exact Or.inl ⟨a1, a2, a3, a4, a5, a6, a7, hk _ _ _ _ h⟩; exact Or.inr ⟨a1, a2, a3, a4, hk _ _ _ _ h⟩)
    | (rcases h with ⟨a1, a2, a3, a4, a5, h⟩ | ⟨a1, a2, h⟩; exact Or.inl ⟨a1, a2, a3, a4, a5, hk _ _ _ _ h⟩; exact Or.inr ⟨a1, a2, hk _ _ _ _ h⟩)
    | exact ⟨h.1, hc _ h.2⟩
    | (by_cases hw : w = 6
       · simp only [StepI, hw, if_true] at h ⊢
         obtain ⟨a1, a2, a3, a4, a5, h⟩ := h
         exact ⟨a1, a2, a3, a4, a5, hk _ _ _ _ h⟩
       · simp only [StepI, hw, if_false] at h ⊢
         exact ⟨h.1, hc _ h.2⟩)
    | (by_cases hw : w = 7
       · simp only [StepI, hw, if_true] at h ⊢
         obtain ⟨a1, a2, a3, a4, a5, a6, a7, a8, a9, b1, b2, b3, b4, b5, b6, b7, b8, h⟩ := h
         exact ⟨a1, a2, a3, a4, a5, a6, a7, a8, a9, b1, b2, b3, b4, b5, b6, b7, b8, hk _ _ _ _ h⟩
       · by_cases hw8 : w = 8
         · subst hw8
           obtain ⟨a1, a2, a3, a4, a5, a6, a7, h⟩ := h
           exact ⟨a1, a2, a3, a4, a5, a6, a7, hk _ _ _ _ h⟩
         · simp only [StepI, hw, hw8, if_false] at h ⊢
           exact hc _ h)
theorem Ev.mk {R : RC} {mth : Nat → Option MI} {cap : Nat × Nat} {sc : Nat × (Nat → Int32)} {ret : Option AV → DS → Prop} {tb : Nat → Option Ent} {pc : Nat} {loc : List (Option AV)} {st : List AV} {S : DS} (h : Step R mth cap sc ret tb (Ev R mth cap sc ret tb) pc loc st S) : Ev R mth cap sc ret tb pc loc st S := by
  intro P hP
  obtain ⟨e, he, hs⟩ := h
  exact hP _ _ _ _ ⟨e, he, hs.mono (fun pc loc st S h => h P hP)⟩
/-- a method's answer: of the right kind, with its cells and slots all used -/
def rtok : Option FieldType → Option AV → Prop
  | none, v => v = none
  | some .long, v => ∃ x, v = some (aL x)
  | some (.object _), v => ∃ o, v = some (.inr o)
  | some ty, v => ∃ x, v = some (aI x) ∧ narrow ty (.int x) = .int x
def retP (rt : Option FieldType) (cap : Nat × Nat) (Φ : Option AV → DS → Prop) (v : Option AV) (S : DS) : Prop := rtok rt v ∧ S.1.length = cap.1 ∧ slz S.1 = cap.2 ∧ Φ v S
def capOf (mi : MI) (S : DS) : Nat × Nat := (S.1.length + mi.2.2.2.2.2.1, slz S.1 + mi.2.2.2.2.2.2.1)
def EvM (mth : Nat → Option MI) : Nat → RC
  | 0, _, _, _, _ => False
  | d + 1, j, as, S, Φ => ∃ mi, mth j = some mi ∧ (locG as).length ≤ mi.2.2.1 ∧ Ev (EvM mth d) mth (capOf mi S) (0, fun _ => 0) (retP mi.2.2.2.1 (capOf mi S) Φ) (lkp mi.2.2.2.2.2.2.2.2) 0 (locA mi.2.2.1 as) [] S
end
section
/-! what a table's entry must be: decided by program -/
def lnI (w : Nat) : Instr → Nat
  | .iload _ | .lload _ | .aload _ | .istore _ | .lstore _ | .astore _ | .bipush _ | .ldc _ | .newarray _ => 2
  | .iinc _ _ | .sipush _ | .ldc_w _ | .ldc2_w _ | .goto _ | .ifCond _ _ | .if_icmp _ _ | .ifnull _ | .ifnonnull _ | .getfield _ | .putfield _ | .new _ | .anewarray _ | .invokevirtual _ | .invokespecial _ | .invokestatic _ => 3
  | .tableswitch _ _ _ _ | .lookupswitch _ _ => w
  | _ => 1
/-- a word of lw_tbl by its place: 10000 * part + place -/
def wAt (n : Nat) : Option Cond := match n / 10000 with
  | 0 => (k2_sels lw_privs)[n % 10000]?
  | 1 => tables_1_1[n % 10000]?
  | 2 => tables_1_2[n % 10000]?
  | 3 => tables_1_3[n % 10000]?
  | 4 => tables_1_4[n % 10000]?
  | 5 => tables_1_5[n % 10000]?
  | _ => none
theorem wAt.in {n : Nat} {c : Cond} (h : wAt n = some c) : c ∈ lw_tbl := by
  have ht : ∀ {L : List Cond} {k : Nat}, L[k]? = some c → c ∈ L := fun h => List.mem_of_getElem? h
  show c ∈ k2_sels lw_privs ++ (tables_1_1 ++ (tables_1_2 ++ (tables_1_3 ++ (tables_1_4 ++ tables_1_5))))
  unfold wAt at h
  split at h
  · exact List.mem_append.mpr (Or.inl (ht h))
  · exact List.mem_append.mpr (Or.inr (List.mem_append.mpr (Or.inl (ht h))))
  · exact List.mem_append.mpr (Or.inr (List.mem_append.mpr (Or.inr (List.mem_append.mpr (Or.inl (ht h))))))
  · exact List.mem_append.mpr (Or.inr (List.mem_append.mpr (Or.inr (List.mem_append.mpr (Or.inr (List.mem_append.mpr (Or.inl (ht h))))))))
  · exact List.mem_append.mpr (Or.inr (List.mem_append.mpr (Or.inr (List.mem_append.mpr (Or.inr (List.mem_append.mpr (Or.inr (List.mem_append.mpr (Or.inl (ht h))))))))))
  · exact List.mem_append.mpr (Or.inr (List.mem_append.mpr (Or.inr (List.mem_append.mpr (Or.inr (List.mem_append.mpr (Or.inr (List.mem_append.mpr (Or.inr (ht h))))))))))
  · cases h
def hasW (n : Nat) (c : Cond) : Bool := decide (wAt n = some c)
theorem hasW.in {n : Nat} {c : Cond} (h : hasW n c = true) : c ∈ lw_tbl := wAt.in (of_decide_eq_true h)
def nth (tl : List Nat) (k : Nat) : Nat := tl.getD k 0
def hasN (n : Nat) (own : String) (idx : Nat) (y : MethodName) : Bool := match wAt n with
  | some (.methodLinkNest o i z _) => decide (o = own) && (decide (i = idx) && decide (z = y))
  | _ => false
theorem hasN.in {n : Nat} {own : String} {idx : Nat} {y : MethodName} (h : hasN n own idx y = true) : ∃ host, (Cond.methodLinkNest own idx y host) ∈ lw_tbl := by
  unfold hasN at h
  split at h
  · next o i z hst he =>
    simp only [Bool.and_eq_true, decide_eq_true_eq] at h
    obtain ⟨h1, h2, h3⟩ := h
    subst h1; subst h2; subst h3
    exact ⟨hst, wAt.in he⟩
  · cases h
/-- a field's row -/
def ckF (own : String) (idx F y w n : Nat) : Bool := match vwCl[F]? with
  | some (_, T, N) => decide (y < N) && (decide (nfT F = N) && (decide (kdT F y = w) && hasW n (.fieldLink own idx (T y).1 (T y).2.1 (T y).2.2.1)))
  | none => false
def ckP (name own : String) (F y w : Nat) : Bool := match vwCl[F]? with
  | some (_, T, _) => (match parseFieldDescriptor (T y).2.2.1 with
    | some .int => Nat.beq w 0
    | some .long => Nat.beq w 1
    | some (.object _) => Nat.ble 2 w
    | some (.array _) => Nat.ble 2 w
    | _ => false) && (decide ((T y).2.2.2 = false) || (decide (name = "<init>") && decide ((T y).1 = own)))
  | none => false
def ckN (own : String) (idx F w : Nat) (tl : List Nat) : Bool := match vwCl[F]? with
  | some (C, _, N) => decide (nfT F = N) && (decide (w = N) && (hasW (nth tl 0) (.classLink own idx C) && (hasW (nth tl 1) (.instantiable C N) && hasW (nth tl 2) (.initialized C))))
  | none => false
def ckA (own : String) (idx x : Nat) (tl : List Nat) : Bool := decide (x = 3000 ∨ x = 4000 ∨ x = 5000) && match vwCl[arT x]? with
  | some (C, _, _) => hasW (nth tl 0) (.classLink own idx C) && hasW (nth tl 1) (.arrayOver (.object C))
  | none => false
/-- a call's row; w % 10: 0 static, 1 static of a nest mate, 2 virtual, 3 virtual of a nest mate, 4 <init>, 5 <init> of a nest mate -/
def ckC (mth : List MI) (mi : MI) (idx x y w : Nat) (tl : List Nat) : Bool := match mth[x]? with
  | some mc => decide (mc.1.cls ≠ "java/lang/invoke/MethodHandle" ∧ mc.1.cls ≠ "java/lang/invoke/VarHandle" ∧ (parseMethodDescriptor mc.1.desc).map (fun d => d.parameters.length) = some y) &&
      (decide (mc.2.2.2.2.1 + 1 ≤ mi.2.2.2.2.1 ∧ 8 + (mc.2.2.1 + 11) + mc.2.2.2.2.2.2.2.1 ≤ mi.2.2.2.2.2.2.2.1) && (hasW (nth tl 1) (.initialized mc.1.cls) &&
      ((bif Nat.beq (w % 2) 0 then hasW (nth tl 0) (.methodLink mi.1.cls idx mc.1) else hasN (nth tl 0) mi.1.cls idx mc.1) &&
       (bif Nat.blt (w % 10) 2 then hasW (nth tl 3) (.static mc.1)
        else bif Nat.blt (w % 10) 4 then hasW (nth tl 3) (.instanceMethod mc.1) && (hasW (nth tl 4) (.selects mc.1.cls mc.1 mc.1) && decide ((vwCl[w / 10]?).map (fun q => q.1) = some mc.1.cls))
        else hasW (nth tl 3) (.instanceMethod mc.1) && (decide (mc.1.name = "<init>") && decide (mc.2.2.2.1 = none))))))
  | none => false
def ckI (mth : List MI) (mi : MI) (pc x y w : Nat) (z : Int) (tl : List Nat) : Instr → Bool
  | .goto off | .ifCond _ off | .if_icmp _ off | .ifnull off | .ifnonnull off => decide ((pc : Int) + off = (x : Int))
  | .tableswitch d lo hi offs => decide ((pc : Int) + d = (x : Int)) && (decide (hi - lo + 1 = (offs.size : Int)) && decide (tl.map Int.ofNat = offs.toList.map (fun o => (pc : Int) + o)))
  | .lookupswitch d ps => decide ((pc : Int) + d = (x : Int)) && (decide ((ps.toList.zip (ps.toList.drop 1)).all (fun (a, next) => a.1 < next.1) = true) && decide (tl.map Int.ofNat = ps.toList.map (fun o => (pc : Int) + o.2)))
  | .getfield idx => ckF mi.1.cls idx x y w (nth tl 0)
  | .putfield idx => ckF mi.1.cls idx x y w (nth tl 0) && ckP mi.1.name mi.1.cls x y w
  | .ldc idx | .ldc_w idx => hasW (nth tl 0) (.constant mi.1.cls idx (Int32.ofInt z))
  | .ldc2_w idx => hasW (nth tl 0) (.constantLong mi.1.cls idx (Int64.ofInt z))
  | .new idx => ckN mi.1.cls idx x w tl
  | .newarray t => match t with
    | .int => decide (x = 1000) && hasW (nth tl 0) (.arrayClass .int)
    | .long => decide (x = 2000) && hasW (nth tl 0) (.arrayClass .long)
    | _ => false
  | .anewarray idx => ckA mi.1.cls idx x tl
  | .invokevirtual idx => ckC mth mi idx x y w tl && decide (w % 10 = 2 ∨ w % 10 = 3)
  | .invokespecial idx => bif Nat.beq w 6 then hasW (nth tl 0) (.methodLink mi.1.cls idx Lib.objectInit) && (hasW (nth tl 1) (.instanceMethod Lib.objectInit) && (hasW (nth tl 2) (.code Lib.objectInit ⟨#[0xb1]⟩ 1 none) && decide (1 ≤ mi.2.2.2.2.1 ∧ 20 ≤ mi.2.2.2.2.2.2.2.1)))
      else ckC mth mi idx x y w tl && decide (w % 10 = 4 ∨ w % 10 = 5)
  | .invokestatic idx => bif Nat.beq w 7 then hasW (nth tl 0) (.methodLink mi.1.cls idx arraycopyName) && (hasW (nth tl 1) (.native arraycopyName) && (hasW (nth tl 2) (.static arraycopyName) && (hasW (nth tl 3) (.initialized "java/lang/System") && decide (1 ≤ mi.2.2.2.2.1 ∧ 8 + (nativeFrameWords "java/lang/System" "arraycopy" 5 + 11) ≤ mi.2.2.2.2.2.2.2.1))))
      else bif Nat.beq w 8 then hasW (nth tl 0) (.methodLink mi.1.cls idx Lib.Math.max.name) && (hasW (nth tl 1) (.static Lib.Math.max.name) && (hasW (nth tl 2) (.initialized "java/lang/Math") && (hasW (nth tl 3) (.code Lib.Math.max.name Lib.Math.max.code 2 (some .int)) && decide (1 ≤ mi.2.2.2.2.1 ∧ 21 ≤ mi.2.2.2.2.2.2.2.1))))
      else ckC mth mi idx x y w tl && decide (w % 10 = 0 ∨ w % 10 = 1)
  | _ => true
def ckE (mth : List MI) (mi : MI) (pc : Nat) (e : Ent) : Bool := decide (decode mi.2.1 pc = .ok (e.1, lnI e.2.2.2.1 e.1)) && ckI mth mi pc e.2.1 e.2.2.1 e.2.2.2.1 e.2.2.2.2.1 e.2.2.2.2.2 e.1
def ckM (mth : List MI) (mi : MI) : Bool := mi.2.2.2.2.2.2.2.2.all (fun c => c.2.all (fun q => ckE mth mi q.1 q.2))
theorem ckM.at {mth : List MI} {mi : MI} (h : ckM mth mi = true) {pc : Nat} {e : Ent} (he : lkp mi.2.2.2.2.2.2.2.2 pc = some e) : ckE mth mi pc e = true := by
  unfold lkp at he
  obtain ⟨c, h1, h2⟩ := Option.bind_eq_some_iff.mp he
  obtain ⟨q, h3, h4⟩ := Option.map_eq_some_iff.mp h2
  have h5 := List.find?_some h3
  have h6 : q.1 = pc := Nat.eq_of_beq_eq_true h5
  subst h4
  subst h6
  exact List.all_eq_true.mp (List.all_eq_true.mp h c (List.mem_of_find?_eq_some h1)) q (List.mem_of_find?_eq_some h3)
end
section
-- 0: HarbourTugs$Berths <init> ()V
def es_0 : List (Nat × List (Nat × Ent)) := [(12, [(0, e0 (.aload_n 0)), (1, .invokespecial 3, 0, 0, 6, 0, [10026, 10019, 10020]), (4, e0 (.aload_n 0)), (5, e0 (.bipush 6)), (7, .newarray .int, 1000, 0, 0, 0, [10036]), (9, .putfield 9, 0, 0, 1008, 0, [10027])]),
  (22, [(12, e0 (.aload_n 0)), (13, e0 (.bipush 6)), (15, .newarray .int, 1000, 0, 0, 0, [10036]), (17, .putfield 15, 0, 1, 1008, 0, [10029]), (20, e0 (.iconst 0)), (21, e0 (.istore_n 1))]),
  (32, [(22, e0 (.iload_n 1)), (23, e0 (.aload_n 0)), (24, .getfield 9, 0, 0, 1008, 0, [10027]), (27, e0 .arraylength), (28, .if_icmp .ge 19, 47, 0, 0, 0, []), (31, e0 (.aload_n 0))]),
  (41, [(32, .getfield 9, 0, 0, 1008, 0, [10027]), (35, e0 (.iload_n 1)), (36, e0 (.bipush 10)), (38, e0 (.iload_n 1)), (39, e0 .imul), (40, e0 .iastore)]),
  (100000, [(41, e0 (.iinc 1 1)), (44, .goto (-22), 22, 0, 0, 0, []), (47, e0 .return_)])]
def in_0 : MI := (⟨"HarbourTugs$Berths", "<init>", "()V"⟩, prog_2_method_1_code, 2, none, 1, 2, 12, 20, es_0)
-- 1: HarbourTugs$Berths hoursBetween (III)I
def es_1 : List (Nat × List (Nat × Ent)) := [(15, [(0, e0 (.iload_n 1)), (1, .invokestatic 18, 107, 1, 1, 0, [20093, 10001, 20076, 20075]), (4, .ifCond .eq 14, 18, 0, 0, 0, []), (7, e0 (.iload_n 2)), (8, .invokestatic 18, 107, 1, 1, 0, [20093, 10001, 20076, 20075]), (11, .ifCond .eq 7, 18, 0, 0, 0, []), (14, e0 (.iload_n 3))]),
  (26, [(15, .ifCond .gt 5, 20, 0, 0, 0, []), (18, e0 (.iconst 0)), (19, e0 .ireturn), (20, e0 (.aload_n 0)), (21, .getfield 9, 0, 0, 1008, 0, [10027]), (24, e0 (.iload_n 1)), (25, e0 .iaload)]),
  (39, [(26, e0 (.aload_n 0)), (27, .getfield 9, 0, 0, 1008, 0, [10027]), (30, e0 (.iload_n 2)), (31, e0 .iaload), (32, .if_icmp .le 19, 51, 0, 0, 0, []), (35, e0 (.aload_n 0)), (36, .getfield 9, 0, 0, 1008, 0, [10027])]),
  (48, [(39, e0 (.iload_n 1)), (40, e0 .iaload), (41, e0 (.aload_n 0)), (42, .getfield 9, 0, 0, 1008, 0, [10027]), (45, e0 (.iload_n 2)), (46, e0 .iaload), (47, e0 .isub)]),
  (61, [(48, .goto 16, 64, 0, 0, 0, []), (51, e0 (.aload_n 0)), (52, .getfield 9, 0, 0, 1008, 0, [10027]), (55, e0 (.iload_n 2)), (56, e0 .iaload), (57, e0 (.aload_n 0)), (58, .getfield 9, 0, 0, 1008, 0, [10027])]),
  (70, [(61, e0 (.iload_n 1)), (62, e0 .iaload), (63, e0 .isub), (64, e0 (.istore 4)), (66, e0 (.iload 4)), (68, e0 (.iload_n 3)), (69, e0 .iadd)]),
  (100000, [(70, e0 (.iconst 1)), (71, e0 .isub), (72, e0 (.iload_n 3)), (73, e0 .idiv), (74, e0 .ireturn)])]
def in_1 : MI := (⟨"HarbourTugs$Berths", "hoursBetween", "(III)I"⟩, prog_2_method_2_code, 5, some .int, 1, 0, 0, 20, es_1)
-- 2: HarbourTugs$Berths basinsOf (LHarbourTugs$Ship;)I
def es_2 : List (Nat × List (Nat × Ent)) := [(14, [(0, e0 (.aload_n 1)), (1, .getfield 22, 4, 5, 0, 0, [10116]), (4, .invokestatic 18, 107, 1, 1, 0, [20093, 10001, 20076, 20075]), (7, .ifCond .eq 13, 20, 0, 0, 0, []), (10, e0 (.aload_n 1)), (11, .getfield 28, 4, 6, 0, 0, [10119])]),
  (24, [(14, .invokestatic 18, 107, 1, 1, 0, [20093, 10001, 20076, 20075]), (17, .ifCond .ne 5, 22, 0, 0, 0, []), (20, e0 (.iconst 0)), (21, e0 .ireturn), (22, e0 (.iconst 1)), (23, e0 (.aload_n 0))]),
  (34, [(24, .getfield 15, 0, 1, 1008, 0, [10029]), (27, e0 (.aload_n 1)), (28, .getfield 22, 4, 5, 0, 0, [10116]), (31, e0 .iaload), (32, e0 .ishl), (33, e0 (.iconst 1))]),
  (44, [(34, e0 (.aload_n 0)), (35, .getfield 15, 0, 1, 1008, 0, [10029]), (38, e0 (.aload_n 1)), (39, .getfield 28, 4, 6, 0, 0, [10119]), (42, e0 .iaload), (43, e0 .ishl)]),
  (100000, [(44, e0 .ior), (45, e0 .ireturn)])]
def in_2 : MI := (⟨"HarbourTugs$Berths", "basinsOf", "(LHarbourTugs$Ship;)I"⟩, prog_2_method_3_code, 2, some .int, 1, 0, 0, 20, es_2)
-- 3: HarbourTugs$Berths shareBasin (LHarbourTugs$Ship;LHarbourTugs$Ship;)Z
def es_3 : List (Nat × List (Nat × Ent)) := [(6, [(0, e0 (.aload_n 0)), (1, e0 (.aload_n 1)), (2, .invokevirtual 31, 2, 1, 2, 0, [20214, 10002, 20217, 20216, 8]), (5, e0 (.aload_n 0))]),
  (14, [(6, e0 (.aload_n 2)), (7, .invokevirtual 31, 2, 1, 2, 0, [20214, 10002, 20217, 20216, 8]), (10, e0 .iand), (11, .ifCond .eq 7, 18, 0, 0, 0, [])]),
  (100000, [(14, e0 (.iconst 1)), (15, .goto 4, 19, 0, 0, 0, []), (18, e0 (.iconst 0)), (19, e0 .ireturn)])]
def in_3 : MI := (⟨"HarbourTugs$Berths", "shareBasin", "(LHarbourTugs$Ship;LHarbourTugs$Ship;)Z"⟩, prog_2_method_4_code, 3, some .boolean, 2, 0, 0, 41, es_3)
-- 4: HarbourTugs$Harbour <init> (LHarbourTugs$Berths;)V
def es_4 : List (Nat × List (Nat × Ent)) := [(21, [(0, e0 (.aload_n 0)), (1, .invokespecial 3, 0, 0, 6, 0, [10042, 10019, 10020]), (4, e0 (.aload_n 0)), (5, e0 (.bipush 12)), (7, .newarray .int, 1000, 0, 0, 0, [10036]), (9, .putfield 9, 1, 1, 1014, 0, [10149]), (12, e0 (.aload_n 0)), (13, e0 (.bipush 48)), (15, .newarray .int, 1000, 0, 0, 0, [10036]), (17, .putfield 15, 1, 2, 1050, 0, [10151]), (20, e0 (.aload_n 0))]),
  (44, [(21, e0 (.bipush 6)), (23, .anewarray 18, 5000, 0, 0, 0, [10043, 10044]), (26, .putfield 20, 1, 3, 5008, 0, [10154]), (29, e0 (.aload_n 0)), (30, e0 (.bipush 8)), (32, .anewarray 24, 4000, 0, 0, 0, [10045, 10046]), (35, .putfield 26, 1, 4, 4010, 0, [10156]), (38, e0 (.aload_n 0)), (39, e0 (.iconst 2)), (40, .putfield 30, 1, 5, 0, 0, [10159]), (43, e0 (.aload_n 0))]),
  (64, [(44, e0 (.iconst 0)), (45, .putfield 34, 1, 6, 0, 0, [10161]), (48, e0 (.aload_n 0)), (49, e0 (.bipush 10)), (51, .putfield 37, 1, 7, 0, 0, [10163]), (54, e0 (.aload_n 0)), (55, e0 (.lconst 0)), (56, .putfield 40, 1, 8, 1, 0, [10165]), (59, e0 (.aload_n 0)), (60, e0 (.iconst 0)), (61, .putfield 44, 1, 9, 0, 0, [10167])]),
  (81, [(64, e0 (.aload_n 0)), (65, e0 (.iconst 0)), (66, .putfield 47, 1, 10, 0, 0, [10169]), (69, e0 (.aload_n 0)), (70, e0 (.iconst 0)), (71, .putfield 50, 1, 11, 0, 0, [10171]), (74, e0 (.aload_n 0)), (75, e0 (.iconst 0)), (76, .putfield 53, 1, 12, 0, 0, [10173]), (79, e0 (.aload_n 0)), (80, e0 (.iconst 0))]),
  (100, [(81, .putfield 56, 1, 13, 0, 0, [10175]), (84, e0 (.aload_n 0)), (85, e0 (.iconst 0)), (86, .putfield 59, 1, 14, 0, 0, [10177]), (89, e0 (.aload_n 0)), (90, e0 (.iconst 0)), (91, .putfield 62, 1, 15, 0, 0, [10179]), (94, e0 (.aload_n 0)), (95, e0 (.aload_n 1)), (96, .putfield 65, 1, 0, 2, 0, [10148]), (99, e0 (.iconst 0))]),
  (117, [(100, e0 (.istore_n 2)), (101, e0 (.iload_n 2)), (102, e0 (.aload_n 0)), (103, .getfield 9, 1, 1, 1014, 0, [10149]), (106, e0 .arraylength), (107, .if_icmp .ge 16, 123, 0, 0, 0, []), (110, e0 (.aload_n 0)), (111, .getfield 9, 1, 1, 1014, 0, [10149]), (114, e0 (.iload_n 2)), (115, e0 (.iconst 5)), (116, e0 .iastore)]),
  (138, [(117, e0 (.iinc 2 1)), (120, .goto (-19), 101, 0, 0, 0, []), (123, e0 (.iconst 0)), (124, e0 (.istore_n 2)), (125, e0 (.iload_n 2)), (126, e0 (.aload_n 0)), (127, .getfield 20, 1, 3, 5008, 0, [10154]), (130, e0 .arraylength), (131, .if_icmp .ge 22, 153, 0, 0, 0, []), (134, e0 (.aload_n 0)), (135, .getfield 20, 1, 3, 5008, 0, [10154])]),
  (157, [(138, e0 (.iload_n 2)), (139, .new 18, 5, 0, 10, 0, [10043, 10047, 10004]), (142, e0 .dup), (143, .invokespecial 69, 63, 0, 5, 0, [10048, 10004, 10050, 10049]), (146, e0 .aastore), (147, e0 (.iinc 2 1)), (150, .goto (-25), 125, 0, 0, 0, []), (153, e0 (.iconst 0)), (154, e0 (.istore_n 2)), (155, e0 (.iload_n 2)), (156, e0 (.aload_n 0))]),
  (180, [(157, .getfield 26, 1, 4, 4010, 0, [10156]), (160, e0 .arraylength), (161, .if_icmp .ge 22, 183, 0, 0, 0, []), (164, e0 (.aload_n 0)), (165, .getfield 26, 1, 4, 4010, 0, [10156]), (168, e0 (.iload_n 2)), (169, .new 24, 4, 0, 9, 0, [10045, 10099, 10005]), (172, e0 .dup), (173, .invokespecial 70, 52, 0, 5, 0, [10100, 10005, 10102, 10101]), (176, e0 .aastore), (177, e0 (.iinc 2 1))]),
  (100000, [(180, .goto (-25), 155, 0, 0, 0, []), (183, e0 .return_)])]
def in_4 : MI := (⟨"HarbourTugs$Harbour", "<init>", "(LHarbourTugs$Berths;)V"⟩, prog_3_method_1_code, 3, none, 2, 18, 206, 40, es_4)
-- 5: HarbourTugs$Harbour copyFrom (LHarbourTugs$Harbour;)V
def es_5 : List (Nat × List (Nat × Ent)) := [(19, [(0, e0 (.aload_n 1)), (1, .getfield 9, 1, 1, 1014, 0, [10149]), (4, e0 (.iconst 0)), (5, e0 (.aload_n 0)), (6, .getfield 9, 1, 1, 1014, 0, [10149]), (9, e0 (.iconst 0)), (10, e0 (.bipush 12)), (12, .invokestatic 71, 0, 0, 7, 0, [30108, 30110, 30109, 10012]), (15, e0 (.aload_n 1)), (16, .getfield 15, 1, 2, 1050, 0, [10151])]),
  (35, [(19, e0 (.iconst 0)), (20, e0 (.aload_n 0)), (21, .getfield 15, 1, 2, 1050, 0, [10151]), (24, e0 (.iconst 0)), (25, e0 (.bipush 48)), (27, .invokestatic 71, 0, 0, 7, 0, [30108, 30110, 30109, 10012]), (30, e0 (.iconst 0)), (31, e0 (.istore_n 2)), (32, e0 (.iload_n 2)), (33, e0 (.bipush 6))]),
  (53, [(35, .if_icmp .ge 24, 59, 0, 0, 0, []), (38, e0 (.aload_n 0)), (39, .getfield 20, 1, 3, 5008, 0, [10154]), (42, e0 (.iload_n 2)), (43, e0 .aaload), (44, e0 (.aload_n 1)), (45, .getfield 20, 1, 3, 5008, 0, [10154]), (48, e0 (.iload_n 2)), (49, e0 .aaload), (50, .invokevirtual 77, 65, 1, 52, 0, [30111, 10004, 30114, 30112, 30113])]),
  (72, [(53, e0 (.iinc 2 1)), (56, .goto (-24), 32, 0, 0, 0, []), (59, e0 (.iconst 0)), (60, e0 (.istore_n 2)), (61, e0 (.iload_n 2)), (62, e0 (.bipush 8)), (64, .if_icmp .ge 24, 88, 0, 0, 0, []), (67, e0 (.aload_n 0)), (68, .getfield 26, 1, 4, 4010, 0, [10156]), (71, e0 (.iload_n 2))]),
  (90, [(72, e0 .aaload), (73, e0 (.aload_n 1)), (74, .getfield 26, 1, 4, 4010, 0, [10156]), (77, e0 (.iload_n 2)), (78, e0 .aaload), (79, .invokevirtual 81, 54, 1, 42, 0, [30116, 10005, 30119, 30117, 30118]), (82, e0 (.iinc 2 1)), (85, .goto (-24), 61, 0, 0, 0, []), (88, e0 (.aload_n 0)), (89, e0 (.aload_n 1))]),
  (112, [(90, .getfield 30, 1, 5, 0, 0, [10159]), (93, .putfield 30, 1, 5, 0, 0, [10159]), (96, e0 (.aload_n 0)), (97, e0 (.aload_n 1)), (98, .getfield 34, 1, 6, 0, 0, [10161]), (101, .putfield 34, 1, 6, 0, 0, [10161]), (104, e0 (.aload_n 0)), (105, e0 (.aload_n 1)), (106, .getfield 37, 1, 7, 0, 0, [10163]), (109, .putfield 37, 1, 7, 0, 0, [10163])]),
  (130, [(112, e0 (.aload_n 0)), (113, e0 (.aload_n 1)), (114, .getfield 40, 1, 8, 1, 0, [10165]), (117, .putfield 40, 1, 8, 1, 0, [10165]), (120, e0 (.aload_n 0)), (121, e0 (.aload_n 1)), (122, .getfield 44, 1, 9, 0, 0, [10167]), (125, .putfield 44, 1, 9, 0, 0, [10167]), (128, e0 (.aload_n 0)), (129, e0 (.aload_n 1))]),
  (152, [(130, .getfield 47, 1, 10, 0, 0, [10169]), (133, .putfield 47, 1, 10, 0, 0, [10169]), (136, e0 (.aload_n 0)), (137, e0 (.aload_n 1)), (138, .getfield 50, 1, 11, 0, 0, [10171]), (141, .putfield 50, 1, 11, 0, 0, [10171]), (144, e0 (.aload_n 0)), (145, e0 (.aload_n 1)), (146, .getfield 53, 1, 12, 0, 0, [10173]), (149, .putfield 53, 1, 12, 0, 0, [10173])]),
  (100000, [(152, e0 (.aload_n 0)), (153, e0 (.aload_n 1)), (154, .getfield 56, 1, 13, 0, 0, [10175]), (157, .putfield 56, 1, 13, 0, 0, [10175]), (160, e0 (.aload_n 0)), (161, e0 (.aload_n 1)), (162, .getfield 59, 1, 14, 0, 0, [10177]), (165, .putfield 59, 1, 14, 0, 0, [10177]), (168, e0 .return_)])]
def in_5 : MI := (⟨"HarbourTugs$Harbour", "copyFrom", "(LHarbourTugs$Harbour;)V"⟩, prog_3_method_2_code, 3, none, 3, 0, 0, 68, es_5)
-- 6: HarbourTugs$Harbour jobsLaid ()I
def es_6 : List (Nat × List (Nat × Ent)) := [(7, [(0, e0 (.iconst 0)), (1, e0 (.istore_n 1)), (2, e0 (.aload_n 0)), (3, .getfield 26, 1, 4, 4010, 0, [10156]), (6, e0 (.astore_n 2))]),
  (13, [(7, e0 (.aload_n 2)), (8, e0 .arraylength), (9, e0 (.istore_n 3)), (10, e0 (.iconst 0)), (11, e0 (.istore 4))]),
  (22, [(13, e0 (.iload 4)), (15, e0 (.iload_n 3)), (16, .if_icmp .ge 26, 42, 0, 0, 0, []), (19, e0 (.aload_n 2)), (20, e0 (.iload 4))]),
  (33, [(22, e0 .aaload), (23, e0 (.astore 5)), (25, e0 (.aload 5)), (27, .invokevirtual 84, 55, 0, 42, 0, [20081, 10005, 20084, 20082, 20083]), (30, .ifCond .eq 6, 36, 0, 0, 0, [])]),
  (100000, [(33, e0 (.iinc 1 1)), (36, e0 (.iinc 4 1)), (39, .goto (-26), 13, 0, 0, 0, []), (42, e0 (.iload_n 1)), (43, e0 .ireturn)])]
def in_6 : MI := (⟨"HarbourTugs$Harbour", "jobsLaid", "()I"⟩, prog_3_method_3_code, 6, some .int, 1, 0, 0, 20, es_6)
-- 7: HarbourTugs$Harbour isBerthUsed (I)Z
def es_7 : List (Nat × List (Nat × Ent)) := [(8, [(0, e0 (.aload_n 0)), (1, .getfield 26, 1, 4, 4010, 0, [10156]), (4, e0 (.astore_n 2)), (5, e0 (.aload_n 2)), (6, e0 .arraylength), (7, e0 (.istore_n 3))]),
  (18, [(8, e0 (.iconst 0)), (9, e0 (.istore 4)), (11, e0 (.iload 4)), (13, e0 (.iload_n 3)), (14, .if_icmp .ge 43, 57, 0, 0, 0, []), (17, e0 (.aload_n 2))]),
  (31, [(18, e0 (.iload 4)), (20, e0 .aaload), (21, e0 (.astore 5)), (23, e0 (.aload 5)), (25, .invokevirtual 84, 55, 0, 42, 0, [20081, 10005, 20084, 20082, 20083]), (28, .ifCond .eq 23, 51, 0, 0, 0, [])]),
  (45, [(31, e0 (.aload 5)), (33, .getfield 88, 4, 5, 0, 0, [10117]), (36, e0 (.iload_n 1)), (37, .if_icmp .eq 12, 49, 0, 0, 0, []), (40, e0 (.aload 5)), (42, .getfield 91, 4, 6, 0, 0, [10120])]),
  (57, [(45, e0 (.iload_n 1)), (46, .if_icmp .ne 5, 51, 0, 0, 0, []), (49, e0 (.iconst 1)), (50, e0 .ireturn), (51, e0 (.iinc 4 1)), (54, .goto (-43), 11, 0, 0, 0, [])]),
  (100000, [(57, e0 (.iconst 0)), (58, e0 .ireturn)])]
def in_7 : MI := (⟨"HarbourTugs$Harbour", "isBerthUsed", "(I)Z"⟩, prog_3_method_4_code, 6, some .boolean, 1, 0, 0, 20, es_7)
-- 8: HarbourTugs$Harbour pullHours (I)J
def es_8 : List (Nat × List (Nat × Ent)) := [(10, [(0, e0 (.lconst 0)), (1, e0 (.lstore_n 2)), (2, e0 (.aload_n 0)), (3, .getfield 20, 1, 3, 5008, 0, [10154]), (6, e0 (.astore 4)), (8, e0 (.aload 4))]),
  (20, [(10, e0 .arraylength), (11, e0 (.istore 5)), (13, e0 (.iconst 0)), (14, e0 (.istore 6)), (16, e0 (.iload 6)), (18, e0 (.iload 5))]),
  (32, [(20, .if_icmp .ge 44, 64, 0, 0, 0, []), (23, e0 (.aload 4)), (25, e0 (.iload 6)), (27, e0 .aaload), (28, e0 (.astore 7)), (30, e0 (.aload 7))]),
  (45, [(32, .getfield 94, 5, 0, 0, 0, [10053]), (35, e0 (.iload_n 1)), (36, .if_icmp .ne 22, 58, 0, 0, 0, []), (39, e0 (.lload_n 2)), (40, e0 (.aload 7)), (42, .getfield 97, 5, 1, 0, 0, [10056])]),
  (56, [(45, e0 .i2l), (46, e0 (.aload 7)), (48, .getfield 100, 5, 8, 1, 0, [10073]), (51, .invokestatic 103, 192, 1, 0, 0, [30060, 10010, 30008, 30007]), (54, e0 .i2l), (55, e0 .lmul)]),
  (100000, [(56, e0 .ladd), (57, e0 (.lstore_n 2)), (58, e0 (.iinc 6 1)), (61, .goto (-45), 16, 0, 0, 0, []), (64, e0 (.lload_n 2)), (65, e0 .lreturn)])]
def in_8 : MI := (⟨"HarbourTugs$Harbour", "pullHours", "(I)J"⟩, prog_3_method_5_code, 8, some .long, 1, 0, 0, 21, es_8)
-- 9: HarbourTugs$Harbour lastBerth (I)I
def es_9 : List (Nat × List (Nat × Ent)) := [(7, [(0, e0 (.aload_n 0)), (1, e0 (.iload_n 1)), (2, e0 (.bipush 48)), (4, .invokevirtual 109, 18, 2, 12, 0, [30021, 10003, 30024, 30023, 14])]),
  (13, [(7, e0 (.astore_n 2)), (8, e0 (.aload_n 2)), (9, .ifnonnull 15, 24, 0, 0, 0, []), (12, e0 (.aload_n 0))]),
  (21, [(13, .getfield 20, 1, 3, 5008, 0, [10154]), (16, e0 (.iload_n 1)), (17, e0 .aaload), (18, .getfield 113, 5, 6, 0, 0, [10067])]),
  (100000, [(21, .goto 7, 28, 0, 0, 0, []), (24, e0 (.aload_n 2)), (25, .getfield 91, 4, 6, 0, 0, [10120]), (28, e0 .ireturn)])]
def in_9 : MI := (⟨"HarbourTugs$Harbour", "lastBerth", "(I)I"⟩, prog_3_method_6_code, 3, some .int, 2, 0, 0, 48, es_9)
-- 10: HarbourTugs$Harbour neededPull (LHarbourTugs$Ship;I)I
def es_10 : List (Nat × List (Nat × Ent)) := [(10, [(0, e0 (.iload_n 2)), (1, e0 (.iconst 0)), (2, e0 (.bipush 47)), (4, .invokestatic 116, 105, 3, 1, 0, [20126, 10001, 20058, 20057]), (7, .ifCond .eq 24, 31, 0, 0, 0, [])]),
  (19, [(10, e0 (.aload_n 1)), (11, .getfield 120, 4, 0, 0, 0, [10106]), (14, e0 (.aload_n 1)), (15, .getfield 120, 4, 0, 0, 0, [10106]), (18, e0 (.aload_n 0))]),
  (26, [(19, .getfield 15, 1, 2, 1050, 0, [10151]), (22, e0 (.iload_n 2)), (23, e0 .iaload), (24, e0 .imul), (25, e0 (.iconst 5))]),
  (100000, [(26, e0 .idiv), (27, e0 .iadd), (28, .goto 4, 32, 0, 0, 0, []), (31, e0 (.iconst 0)), (32, e0 .ireturn)])]
def in_10 : MI := (⟨"HarbourTugs$Harbour", "neededPull", "(LHarbourTugs$Ship;I)I"⟩, prog_3_method_7_code, 3, some .int, 1, 0, 0, 22, es_10)
-- 11: HarbourTugs$Harbour mostNeeded (LHarbourTugs$Ship;II)I
def es_11 : List (Nat × List (Nat × Ent)) := [(8, [(0, e0 (.iconst 0)), (1, e0 (.istore 4)), (3, e0 (.iload_n 2)), (4, e0 (.istore 5)), (6, e0 (.iload 5))]),
  (19, [(8, e0 (.iload_n 3)), (9, .if_icmp .gt 30, 39, 0, 0, 0, []), (12, e0 (.iload 5)), (14, e0 (.bipush 48)), (16, .if_icmp .ge 23, 39, 0, 0, 0, [])]),
  (28, [(19, e0 (.iload 4)), (21, e0 (.aload_n 0)), (22, e0 (.aload_n 1)), (23, e0 (.iload 5)), (25, .invokevirtual 123, 10, 2, 12, 0, [20198, 10003, 20125, 20123, 20124])]),
  (41, [(28, .invokestatic 127, 0, 0, 8, 0, [20199, 20200, 10009, 20201]), (31, e0 (.istore 4)), (33, e0 (.iinc 5 1)), (36, .goto (-30), 6, 0, 0, 0, []), (39, e0 (.iload 4))]),
  (100000, [(41, e0 .ireturn)])]
def in_11 : MI := (⟨"HarbourTugs$Harbour", "mostNeeded", "(LHarbourTugs$Ship;II)I"⟩, prog_3_method_8_code, 6, some .int, 2, 0, 0, 60, es_11)
-- 12: HarbourTugs$Harbour pullOf (I)I
def es_12 : List (Nat × List (Nat × Ent)) := [(5, [(0, e0 (.iconst 0)), (1, e0 (.istore_n 2)), (2, e0 (.iconst 0)), (3, e0 (.istore_n 3)), (4, e0 (.iload_n 3))]),
  (14, [(5, e0 (.aload_n 0)), (6, .getfield 20, 1, 3, 5008, 0, [10154]), (9, e0 .arraylength), (10, .if_icmp .ge 29, 39, 0, 0, 0, []), (13, e0 (.iload_n 3))]),
  (23, [(14, e0 (.iload_n 1)), (15, .invokestatic 133, 113, 2, 1, 0, [20191, 10001, 20193, 20192]), (18, .ifCond .eq 15, 33, 0, 0, 0, []), (21, e0 (.iload_n 2)), (22, e0 (.aload_n 0))]),
  (32, [(23, .getfield 20, 1, 3, 5008, 0, [10154]), (26, e0 (.iload_n 3)), (27, e0 .aaload), (28, .getfield 97, 5, 1, 0, 0, [10056]), (31, e0 .iadd)]),
  (100000, [(32, e0 (.istore_n 2)), (33, e0 (.iinc 3 1)), (36, .goto (-32), 4, 0, 0, 0, []), (39, e0 (.iload_n 2)), (40, e0 .ireturn)])]
def in_12 : MI := (⟨"HarbourTugs$Harbour", "pullOf", "(I)I"⟩, prog_3_method_9_code, 4, some .int, 1, 0, 0, 21, es_12)
-- 13: HarbourTugs$Harbour canPullAstern (I)Z
def es_13 : List (Nat × List (Nat × Ent)) := [(7, [(0, e0 (.iconst 0)), (1, e0 (.istore_n 2)), (2, e0 (.iload_n 2)), (3, e0 (.aload_n 0)), (4, .getfield 20, 1, 3, 5008, 0, [10154])]),
  (16, [(7, e0 .arraylength), (8, .if_icmp .ge 32, 40, 0, 0, 0, []), (11, e0 (.iload_n 2)), (12, e0 (.iload_n 1)), (13, .invokestatic 133, 113, 2, 1, 0, [20191, 10001, 20193, 20192])]),
  (25, [(16, .ifCond .eq 18, 34, 0, 0, 0, []), (19, e0 (.aload_n 0)), (20, .getfield 20, 1, 3, 5008, 0, [10154]), (23, e0 (.iload_n 2)), (24, e0 .aaload)]),
  (34, [(25, .getfield 137, 5, 2, 0, 0, [10059]), (28, e0 (.iconst 1)), (29, .if_icmp .ne 5, 34, 0, 0, 0, []), (32, e0 (.iconst 1)), (33, e0 .ireturn)]),
  (100000, [(34, e0 (.iinc 2 1)), (37, .goto (-35), 2, 0, 0, 0, []), (40, e0 (.iconst 0)), (41, e0 .ireturn)])]
def in_13 : MI := (⟨"HarbourTugs$Harbour", "canPullAstern", "(I)Z"⟩, prog_3_method_10_code, 3, some .boolean, 1, 0, 0, 21, es_13)
-- 14: HarbourTugs$Harbour lowHours (LHarbourTugs$Ship;)J
def es_14 : List (Nat × List (Nat × Ent)) := [(9, [(0, e0 (.lconst 0)), (1, e0 (.lstore_n 2)), (2, e0 (.iconst 0)), (3, e0 (.istore 4)), (5, e0 (.iload 4)), (7, e0 (.bipush 48))]),
  (21, [(9, .if_icmp .ge 33, 42, 0, 0, 0, []), (12, e0 (.aload_n 0)), (13, .getfield 9, 1, 1, 1014, 0, [10149]), (16, e0 (.iload 4)), (18, e0 (.bipush 12)), (20, e0 .irem)]),
  (31, [(21, e0 .iaload), (22, e0 (.aload_n 1)), (23, .getfield 140, 4, 1, 0, 0, [10108]), (26, .if_icmp .ge 10, 36, 0, 0, 0, []), (29, e0 (.lload_n 2)), (30, e0 (.lconst 1))]),
  (42, [(31, e0 (.iload 4)), (33, e0 .lshl), (34, e0 .lor), (35, e0 (.lstore_n 2)), (36, e0 (.iinc 4 1)), (39, .goto (-34), 5, 0, 0, 0, [])]),
  (100000, [(42, e0 (.lload_n 2)), (43, e0 .lreturn)])]
def in_14 : MI := (⟨"HarbourTugs$Harbour", "lowHours", "(LHarbourTugs$Ship;)J"⟩, prog_3_method_11_code, 5, some .long, 0, 0, 0, 0, es_14)
-- 15: HarbourTugs$Harbour basinHours (LHarbourTugs$Ship;)J
def es_15 : List (Nat × List (Nat × Ent)) := [(10, [(0, e0 (.lconst 0)), (1, e0 (.lstore_n 2)), (2, e0 (.aload_n 0)), (3, .getfield 26, 1, 4, 4010, 0, [10156]), (6, e0 (.astore 4)), (8, e0 (.aload 4))]),
  (20, [(10, e0 .arraylength), (11, e0 (.istore 5)), (13, e0 (.iconst 0)), (14, e0 (.istore 6)), (16, e0 (.iload 6)), (18, e0 (.iload 5))]),
  (32, [(20, .if_icmp .ge 45, 65, 0, 0, 0, []), (23, e0 (.aload 4)), (25, e0 (.iload 6)), (27, e0 .aaload), (28, e0 (.astore 7)), (30, e0 (.aload 7))]),
  (45, [(32, .invokevirtual 84, 55, 0, 42, 0, [20081, 10005, 20084, 20082, 20083]), (35, .ifCond .eq 24, 59, 0, 0, 0, []), (38, e0 (.aload_n 0)), (39, .getfield 65, 1, 0, 2, 0, [10148]), (42, e0 (.aload_n 1)), (43, e0 (.aload 7))]),
  (58, [(45, .invokevirtual 143, 3, 2, 2, 0, [20210, 10002, 20213, 20211, 20212]), (48, .ifCond .eq 11, 59, 0, 0, 0, []), (51, e0 (.lload_n 2)), (52, e0 (.aload 7)), (54, .invokevirtual 149, 61, 0, 42, 0, [20218, 10005, 20221, 20219, 20220]), (57, e0 .lor)]),
  (100000, [(58, e0 (.lstore_n 2)), (59, e0 (.iinc 6 1)), (62, .goto (-46), 16, 0, 0, 0, []), (65, e0 (.lload_n 2)), (66, e0 .lreturn)])]
def in_15 : MI := (⟨"HarbourTugs$Harbour", "basinHours", "(LHarbourTugs$Ship;)J"⟩, prog_3_method_12_code, 8, some .long, 3, 0, 0, 63, es_15)
-- 16: HarbourTugs$Harbour isGuarded (LHarbourTugs$Ship;II)Z
def es_16 : List (Nat × List (Nat × Ent)) := [(7, [(0, e0 (.iload_n 2)), (1, e0 (.istore 4)), (3, e0 (.iload 4)), (5, e0 (.iload_n 2)), (6, e0 (.aload_n 1))]),
  (17, [(7, .getfield 153, 4, 3, 0, 0, [10113]), (10, e0 .iadd), (11, .if_icmp .ge 21, 32, 0, 0, 0, []), (14, e0 (.aload_n 0)), (15, e0 (.iload 4))]),
  (26, [(17, e0 (.iload_n 3)), (18, .invokevirtual 156, 17, 2, 12, 0, [20228, 10003, 20231, 20230, 10]), (21, .ifCond .ne 5, 26, 0, 0, 0, []), (24, e0 (.iconst 0)), (25, e0 .ireturn)]),
  (100000, [(26, e0 (.iinc 4 1)), (29, .goto (-26), 3, 0, 0, 0, []), (32, e0 (.iconst 1)), (33, e0 .ireturn)])]
def in_16 : MI := (⟨"HarbourTugs$Harbour", "isGuarded", "(LHarbourTugs$Ship;II)Z"⟩, prog_3_method_13_code, 5, some .boolean, 2, 0, 0, 44, es_16)
-- 17: HarbourTugs$Harbour hasIdle (II)Z
def es_17 : List (Nat × List (Nat × Ent)) := [(11, [(0, e0 (.iconst 0)), (1, e0 (.istore_n 3)), (2, e0 (.iload_n 3)), (3, e0 (.aload_n 0)), (4, .getfield 44, 1, 9, 0, 0, [10167]), (7, .if_icmp .ge 59, 66, 0, 0, 0, []), (10, e0 (.iload_n 3))]),
  (24, [(11, e0 (.aload_n 0)), (12, .getfield 20, 1, 3, 5008, 0, [10154]), (15, e0 .arraylength), (16, .if_icmp .ge 50, 66, 0, 0, 0, []), (19, e0 (.iload_n 3)), (20, e0 (.iload_n 2)), (21, .invokestatic 133, 113, 2, 1, 0, [20191, 10001, 20193, 20192])]),
  (37, [(24, .ifCond .ne 36, 60, 0, 0, 0, []), (27, e0 (.aload_n 0)), (28, .getfield 20, 1, 3, 5008, 0, [10154]), (31, e0 (.iload_n 3)), (32, e0 .aaload), (33, .getfield 100, 5, 8, 1, 0, [10073]), (36, e0 (.iload_n 1))]),
  (46, [(37, e0 .lushr), (38, e0 (.lconst 1)), (39, e0 .land), (40, e0 (.lconst 0)), (41, e0 .lcmp), (42, .ifCond .ne 18, 60, 0, 0, 0, []), (45, e0 (.aload_n 0))]),
  (59, [(46, .getfield 20, 1, 3, 5008, 0, [10154]), (49, e0 (.iload_n 3)), (50, e0 .aaload), (51, e0 (.iload_n 1)), (52, .invokevirtual 159, 66, 1, 52, 0, [20232, 10004, 20142, 20140, 20141]), (55, .ifCond .ne 5, 60, 0, 0, 0, []), (58, e0 (.iconst 1))]),
  (100000, [(59, e0 .ireturn), (60, e0 (.iinc 3 1)), (63, .goto (-61), 2, 0, 0, 0, []), (66, e0 (.iconst 0)), (67, e0 .ireturn)])]
def in_17 : MI := (⟨"HarbourTugs$Harbour", "hasIdle", "(II)Z"⟩, prog_3_method_14_code, 4, some .boolean, 1, 0, 0, 21, es_17)
-- 18: HarbourTugs$Harbour jobBefore (II)LHarbourTugs$Ship;
def es_18 : List (Nat × List (Nat × Ent)) := [(11, [(0, e0 .aconst_null), (1, e0 (.astore_n 3)), (2, e0 (.aload_n 0)), (3, .getfield 26, 1, 4, 4010, 0, [10156]), (6, e0 (.astore 4)), (8, e0 (.aload 4)), (10, e0 .arraylength)]),
  (25, [(11, e0 (.istore 5)), (13, e0 (.iconst 0)), (14, e0 (.istore 6)), (16, e0 (.iload 6)), (18, e0 (.iload 5)), (20, .if_icmp .ge 53, 73, 0, 0, 0, []), (23, e0 (.aload 4))]),
  (39, [(25, e0 (.iload 6)), (27, e0 .aaload), (28, e0 (.astore 7)), (30, e0 (.aload 7)), (32, e0 (.iload_n 1)), (33, .invokevirtual 163, 56, 1, 42, 0, [30025, 10005, 30028, 30026, 30027]), (36, .ifCond .eq 31, 67, 0, 0, 0, [])]),
  (54, [(39, e0 (.aload 7)), (41, .invokevirtual 166, 58, 0, 42, 0, [30029, 10005, 30032, 30030, 30031]), (44, e0 (.iload_n 2)), (45, .if_icmp .ge 22, 67, 0, 0, 0, []), (48, e0 (.aload_n 3)), (49, .ifnull 15, 64, 0, 0, 0, []), (52, e0 (.aload 7))]),
  (70, [(54, .getfield 170, 4, 7, 0, 0, [10124]), (57, e0 (.aload_n 3)), (58, .getfield 170, 4, 7, 0, 0, [10124]), (61, .if_icmp .le 6, 67, 0, 0, 0, []), (64, e0 (.aload 7)), (66, e0 (.astore_n 3)), (67, e0 (.iinc 6 1))]),
  (100000, [(70, .goto (-54), 16, 0, 0, 0, []), (73, e0 (.aload_n 3)), (74, e0 .areturn)])]
def in_18 : MI := (⟨"HarbourTugs$Harbour", "jobBefore", "(II)LHarbourTugs$Ship;"⟩, prog_3_method_15_code, 8, some (.object "HarbourTugs$Ship"), 1, 0, 0, 21, es_18)
-- 19: HarbourTugs$Harbour jobBehind (II)LHarbourTugs$Ship;
def es_19 : List (Nat × List (Nat × Ent)) := [(11, [(0, e0 .aconst_null), (1, e0 (.astore_n 3)), (2, e0 (.aload_n 0)), (3, .getfield 26, 1, 4, 4010, 0, [10156]), (6, e0 (.astore 4)), (8, e0 (.aload 4)), (10, e0 .arraylength)]),
  (25, [(11, e0 (.istore 5)), (13, e0 (.iconst 0)), (14, e0 (.istore 6)), (16, e0 (.iload 6)), (18, e0 (.iload 5)), (20, .if_icmp .ge 53, 73, 0, 0, 0, []), (23, e0 (.aload 4))]),
  (39, [(25, e0 (.iload 6)), (27, e0 .aaload), (28, e0 (.astore 7)), (30, e0 (.aload 7)), (32, e0 (.iload_n 1)), (33, .invokevirtual 163, 56, 1, 42, 0, [30025, 10005, 30028, 30026, 30027]), (36, .ifCond .eq 31, 67, 0, 0, 0, [])]),
  (54, [(39, e0 (.aload 7)), (41, .getfield 170, 4, 7, 0, 0, [10124]), (44, e0 (.iload_n 2)), (45, .if_icmp .lt 22, 67, 0, 0, 0, []), (48, e0 (.aload_n 3)), (49, .ifnull 15, 64, 0, 0, 0, []), (52, e0 (.aload 7))]),
  (70, [(54, .getfield 170, 4, 7, 0, 0, [10124]), (57, e0 (.aload_n 3)), (58, .getfield 170, 4, 7, 0, 0, [10124]), (61, .if_icmp .ge 6, 67, 0, 0, 0, []), (64, e0 (.aload 7)), (66, e0 (.astore_n 3)), (67, e0 (.iinc 6 1))]),
  (100000, [(70, .goto (-54), 16, 0, 0, 0, []), (73, e0 (.aload_n 3)), (74, e0 .areturn)])]
def in_19 : MI := (⟨"HarbourTugs$Harbour", "jobBehind", "(II)LHarbourTugs$Ship;"⟩, prog_3_method_16_code, 8, some (.object "HarbourTugs$Ship"), 1, 0, 0, 21, es_19)
-- 20: HarbourTugs$Harbour canBeThere (ILHarbourTugs$Ship;I)Z
def es_20 : List (Nat × List (Nat × Ent)) := [(17, [(0, e0 (.aload_n 0)), (1, e0 (.iload_n 1)), (2, e0 (.iload_n 3)), (3, .invokevirtual 109, 18, 2, 12, 0, [30021, 10003, 30024, 30023, 14]), (6, e0 (.astore 4)), (8, e0 (.aload 4)), (10, .ifnonnull 15, 25, 0, 0, 0, []), (13, e0 (.aload_n 0)), (14, .getfield 20, 1, 3, 5008, 0, [10154])]),
  (37, [(17, e0 (.iload_n 1)), (18, e0 .aaload), (19, .getfield 113, 5, 6, 0, 0, [10067]), (22, .goto 8, 30, 0, 0, 0, []), (25, e0 (.aload 4)), (27, .getfield 91, 4, 6, 0, 0, [10120]), (30, e0 (.istore 5)), (32, e0 (.aload 4)), (34, .ifnonnull 7, 41, 0, 0, 0, [])]),
  (53, [(37, e0 (.iconst 0)), (38, .goto 10, 48, 0, 0, 0, []), (41, e0 (.aload 4)), (43, .invokevirtual 166, 58, 0, 42, 0, [30029, 10005, 30032, 30030, 30031]), (46, e0 (.iconst 1)), (47, e0 .iadd), (48, e0 (.istore 6)), (50, e0 (.iload 6)), (52, e0 (.aload_n 0))]),
  (71, [(53, .getfield 65, 1, 0, 2, 0, [10148]), (56, e0 (.iload 5)), (58, e0 (.aload_n 2)), (59, .getfield 88, 4, 5, 0, 0, [10117]), (62, e0 (.aload_n 0)), (63, .getfield 37, 1, 7, 0, 0, [10163]), (66, .invokevirtual 173, 1, 3, 2, 0, [30033, 10002, 20092, 20090, 20091]), (69, e0 .iadd), (70, e0 (.iload_n 3))]),
  (85, [(71, .if_icmp .le 5, 76, 0, 0, 0, []), (74, e0 (.iconst 0)), (75, e0 .ireturn), (76, e0 (.iload_n 3)), (77, e0 (.aload_n 2)), (78, .getfield 153, 4, 3, 0, 0, [10113]), (81, e0 .iadd), (82, e0 (.istore 7)), (84, e0 (.aload_n 0))]),
  (104, [(85, e0 (.iload_n 1)), (86, e0 (.iload 7)), (88, .invokevirtual 177, 19, 2, 12, 0, [30034, 10003, 30037, 30036, 15]), (91, e0 (.astore 8)), (93, e0 (.aload 8)), (95, .ifnull 34, 129, 0, 0, 0, []), (98, e0 (.iload 7)), (100, e0 (.aload_n 0)), (101, .getfield 65, 1, 0, 2, 0, [10148])]),
  (123, [(104, e0 (.aload_n 2)), (105, .getfield 91, 4, 6, 0, 0, [10120]), (108, e0 (.aload 8)), (110, .getfield 88, 4, 5, 0, 0, [10117]), (113, e0 (.aload_n 0)), (114, .getfield 37, 1, 7, 0, 0, [10163]), (117, .invokevirtual 173, 1, 3, 2, 0, [30033, 10002, 20092, 20090, 20091]), (120, e0 .iadd), (121, e0 (.aload 8))]),
  (100000, [(123, .getfield 170, 4, 7, 0, 0, [10124]), (126, .if_icmp .gt 7, 133, 0, 0, 0, []), (129, e0 (.iconst 1)), (130, .goto 4, 134, 0, 0, 0, []), (133, e0 (.iconst 0)), (134, e0 .ireturn)])]
def in_20 : MI := (⟨"HarbourTugs$Harbour", "canBeThere", "(ILHarbourTugs$Ship;I)Z"⟩, prog_3_method_17_code, 9, some .boolean, 2, 0, 0, 48, es_20)
-- 21: HarbourTugs$Harbour failsBy (LHarbourTugs$Ship;II)I
def es_21 : List (Nat × List (Nat × Ent)) := [(10, [(0, e0 (.iconst 1)), (1, e0 (.istore 4)), (3, e0 (.iload 4)), (5, e0 (.bipush 12)), (7, .if_icmp .gt 24, 31, 0, 0, 0, [])]),
  (16, [(10, e0 (.aload_n 0)), (11, e0 (.iload 4)), (13, e0 (.aload_n 1)), (14, e0 (.iload_n 2)), (15, e0 (.iload_n 3))]),
  (28, [(16, .invokevirtual 180, 22, 4, 12, 0, [20168, 10003, 20171, 20170, 4]), (19, .ifCond .ne 6, 25, 0, 0, 0, []), (22, e0 (.iload 4)), (24, e0 .ireturn), (25, e0 (.iinc 4 1))]),
  (100000, [(28, .goto (-25), 3, 0, 0, 0, []), (31, e0 (.iconst 0)), (32, e0 .ireturn)])]
def in_21 : MI := (⟨"HarbourTugs$Harbour", "failsBy", "(LHarbourTugs$Ship;II)I"⟩, prog_3_method_18_code, 5, some .int, 6, 0, 0, 152, es_21)
-- 22: HarbourTugs$Harbour holds (ILHarbourTugs$Ship;II)Z
def es_22 : List (Nat × List (Nat × Ent)) := [(76, [(0, e0 (.iload_n 1)), (1, .tableswitch 194 1 12 #[63, 69, 91, 120, 194, 194, 194, 194, 127, 149, 194, 173], 195, 0, 63, 0, [64, 70, 92, 121, 195, 195, 195, 195, 128, 150, 195, 174]), (64, e0 (.aload_n 2)), (65, e0 (.iload_n 3)), (66, .invokevirtual 184, 59, 1, 42, 0, [20172, 10005, 20175, 20173, 20174]), (69, e0 .ireturn), (70, e0 (.aload_n 0)), (71, e0 (.aload_n 2)), (72, .invokevirtual 187, 14, 1, 12, 0, [20176, 10003, 20179, 20178, 5]), (75, e0 (.aload_n 2))]),
  (92, [(76, e0 (.iload_n 3)), (77, .invokevirtual 191, 60, 1, 42, 0, [20180, 10005, 20183, 20181, 20182]), (80, e0 .land), (81, e0 (.lconst 0)), (82, e0 .lcmp), (83, .ifCond .ne 7, 90, 0, 0, 0, []), (86, e0 (.iconst 1)), (87, .goto 4, 91, 0, 0, 0, []), (90, e0 (.iconst 0)), (91, e0 .ireturn)]),
  (107, [(92, e0 (.aload_n 0)), (93, e0 (.iload 4)), (95, .invokevirtual 195, 12, 1, 12, 0, [20187, 10003, 20190, 20188, 20189]), (98, e0 (.aload_n 0)), (99, e0 (.aload_n 2)), (100, e0 (.iload_n 3)), (101, e0 (.iload_n 3)), (102, e0 (.aload_n 2)), (103, .getfield 153, 4, 3, 0, 0, [10113]), (106, e0 .iadd)]),
  (124, [(107, e0 (.iconst 1)), (108, e0 .isub), (109, .invokevirtual 199, 11, 3, 12, 0, [20194, 10003, 20197, 20195, 20196]), (112, .if_icmp .lt 7, 119, 0, 0, 0, []), (115, e0 (.iconst 1)), (116, .goto 4, 120, 0, 0, 0, []), (119, e0 (.iconst 0)), (120, e0 .ireturn), (121, e0 (.aload_n 0)), (122, e0 (.iload 4))]),
  (140, [(124, .invokevirtual 203, 13, 1, 12, 0, [20202, 10003, 20205, 20204, 6]), (127, e0 .ireturn), (128, e0 (.aload_n 0)), (129, e0 (.aload_n 2)), (130, .invokevirtual 206, 15, 1, 12, 0, [20206, 10003, 20209, 20208, 7]), (133, e0 (.aload_n 2)), (134, e0 (.iload_n 3)), (135, .invokevirtual 191, 60, 1, 42, 0, [20180, 10005, 20183, 20181, 20182]), (138, e0 .land), (139, e0 (.lconst 0))]),
  (158, [(140, e0 .lcmp), (141, .ifCond .ne 7, 148, 0, 0, 0, []), (144, e0 (.iconst 1)), (145, .goto 4, 149, 0, 0, 0, []), (148, e0 (.iconst 0)), (149, e0 .ireturn), (150, e0 (.aload_n 0)), (151, .getfield 34, 1, 6, 0, 0, [10161]), (154, .ifCond .eq 14, 168, 0, 0, 0, []), (157, e0 (.aload_n 0))]),
  (175, [(158, e0 (.aload_n 2)), (159, e0 (.iload_n 3)), (160, e0 (.iload 4)), (162, .invokevirtual 209, 16, 3, 12, 0, [20224, 10003, 20227, 20226, 9]), (165, .ifCond .eq 7, 172, 0, 0, 0, []), (168, e0 (.iconst 1)), (169, .goto 4, 173, 0, 0, 0, []), (172, e0 (.iconst 0)), (173, e0 .ireturn), (174, e0 (.aload_n 0))]),
  (193, [(175, .getfield 40, 1, 8, 1, 0, [10165]), (178, e0 (.aload_n 2)), (179, e0 (.iload_n 3)), (180, .invokevirtual 191, 60, 1, 42, 0, [20180, 10005, 20183, 20181, 20182]), (183, e0 .land), (184, e0 (.lconst 0)), (185, e0 .lcmp), (186, .ifCond .ne 7, 193, 0, 0, 0, []), (189, e0 (.iconst 1)), (190, .goto 4, 194, 0, 0, 0, [])]),
  (100000, [(193, e0 (.iconst 0)), (194, e0 .ireturn), (195, e0 (.aload_n 0)), (196, e0 (.iload_n 1)), (197, e0 (.aload_n 2)), (198, e0 (.iload_n 3)), (199, e0 (.iload 4)), (201, .invokevirtual 213, 23, 4, 12, 0, [20233, 10003, 20236, 20235, 11]), (204, e0 .ireturn)])]
def in_22 : MI := (⟨"HarbourTugs$Harbour", "holds", "(ILHarbourTugs$Ship;II)Z"⟩, prog_3_method_19_code, 5, some .boolean, 5, 0, 0, 128, es_22)
-- 23: HarbourTugs$Harbour holdsForEach (ILHarbourTugs$Ship;II)Z
def es_23 : List (Nat × List (Nat × Ent)) := [(9, [(0, e0 (.iconst 0)), (1, e0 (.istore 5)), (3, e0 (.iload 5)), (5, e0 (.aload_n 0)), (6, .getfield 20, 1, 3, 5008, 0, [10154])]),
  (20, [(9, e0 .arraylength), (10, .if_icmp .ge 33, 43, 0, 0, 0, []), (13, e0 (.iload 5)), (15, e0 (.iload 4)), (17, .invokestatic 133, 113, 2, 1, 0, [20191, 10001, 20193, 20192])]),
  (28, [(20, .ifCond .eq 17, 37, 0, 0, 0, []), (23, e0 (.aload_n 0)), (24, e0 (.iload_n 1)), (25, e0 (.iload 5)), (27, e0 (.aload_n 2))]),
  (37, [(28, e0 (.iload_n 3)), (29, .invokevirtual 216, 24, 4, 12, 0, [20237, 10003, 30000, 20239, 12]), (32, .ifCond .ne 5, 37, 0, 0, 0, []), (35, e0 (.iconst 0)), (36, e0 .ireturn)]),
  (100000, [(37, e0 (.iinc 5 1)), (40, .goto (-37), 3, 0, 0, 0, []), (43, e0 (.iconst 1)), (44, e0 .ireturn)])]
def in_23 : MI := (⟨"HarbourTugs$Harbour", "holdsForEach", "(ILHarbourTugs$Ship;II)Z"⟩, prog_3_method_20_code, 6, some .boolean, 4, 0, 0, 103, es_23)
-- 24: HarbourTugs$Harbour holdsFor (IILHarbourTugs$Ship;I)Z
def es_24 : List (Nat × List (Nat × Ent)) := [(14, [(0, e0 (.aload_n 0)), (1, .getfield 20, 1, 3, 5008, 0, [10154]), (4, e0 (.iload_n 2)), (5, e0 .aaload), (6, e0 (.astore 5)), (8, e0 (.aload_n 3)), (9, e0 (.iload 4)), (11, .invokevirtual 191, 60, 1, 42, 0, [20180, 10005, 20183, 20181, 20182])]),
  (58, [(14, e0 (.lstore 6)), (16, e0 (.iload_n 1)), (17, .tableswitch 94 5 8 #[31, 39, 53, 71], 111, 0, 31, 0, [48, 56, 70, 88]), (48, e0 (.aload 5)), (50, e0 (.lload 6)), (52, .invokevirtual 220, 68, 1, 52, 0, [30001, 10004, 20138, 20136, 20137]), (55, e0 .ireturn), (56, e0 (.aload 5))]),
  (74, [(58, e0 (.aload 5)), (60, .getfield 100, 5, 8, 1, 0, [10073]), (63, e0 (.lload 6)), (65, e0 .lor), (66, .invokevirtual 224, 70, 1, 52, 0, [30002, 10004, 30005, 30003, 30004]), (69, e0 .ireturn), (70, e0 (.aload 5)), (72, e0 (.aload 5))]),
  (90, [(74, .getfield 100, 5, 8, 1, 0, [10073]), (77, e0 (.lload 6)), (79, e0 .lor), (80, e0 (.aload_n 0)), (81, .getfield 30, 1, 5, 0, 0, [10159]), (84, .invokevirtual 227, 72, 2, 52, 0, [30012, 10004, 30015, 30013, 30014]), (87, e0 .ireturn), (88, e0 (.aload 5))]),
  (105, [(90, e0 (.iload 4)), (92, e0 (.aload_n 3)), (93, .getfield 153, 4, 3, 0, 0, [10113]), (96, e0 .iadd), (97, e0 (.iconst 1)), (98, e0 .isub), (99, .invokevirtual 159, 66, 1, 52, 0, [20232, 10004, 20142, 20140, 20141]), (102, .ifCond .ne 7, 109, 0, 0, 0, [])]),
  (116, [(105, e0 (.iconst 1)), (106, .goto 4, 110, 0, 0, 0, []), (109, e0 (.iconst 0)), (110, e0 .ireturn), (111, e0 (.aload_n 0)), (112, e0 (.iload_n 2)), (113, e0 (.aload_n 3)), (114, e0 (.iload 4))]),
  (100000, [(116, .invokevirtual 231, 20, 3, 12, 0, [30017, 10003, 30020, 30019, 13]), (119, e0 .ireturn)])]
def in_24 : MI := (⟨"HarbourTugs$Harbour", "holdsFor", "(IILHarbourTugs$Ship;I)Z"⟩, prog_3_method_21_code, 8, some .boolean, 3, 0, 0, 76, es_24)
-- 25: HarbourTugs$Harbour seekBest (LHarbourTugs$Ship;)I
def es_25 : List (Nat × List (Nat × Ent)) := [(12, [(0, e0 (.aload_n 0)), (1, .getfield 40, 1, 8, 1, 0, [10165]), (4, e0 (.aload_n 0)), (5, e0 (.aload_n 1)), (6, .invokevirtual 187, 14, 1, 12, 0, [20176, 10003, 20179, 20178, 5]), (9, e0 .lor), (10, e0 (.aload_n 0)), (11, e0 (.aload_n 1))]),
  (26, [(12, .invokevirtual 206, 15, 1, 12, 0, [20206, 10003, 20209, 20208, 7]), (15, e0 .lor), (16, e0 (.lstore_n 2)), (17, e0 (.aload_n 1)), (18, .getfield 235, 4, 2, 0, 0, [10111]), (21, e0 (.istore 4)), (23, e0 (.iload 4)), (25, e0 (.aload_n 1))]),
  (42, [(26, .getfield 153, 4, 3, 0, 0, [10113]), (29, e0 .iadd), (30, e0 (.bipush 48)), (32, .if_icmp .gt 50, 82, 0, 0, 0, []), (35, e0 (.lload_n 2)), (36, e0 (.aload_n 1)), (37, e0 (.iload 4)), (39, .invokevirtual 191, 60, 1, 42, 0, [20180, 10005, 20183, 20181, 20182])]),
  (53, [(42, e0 .land), (43, e0 (.lconst 0)), (44, e0 .lcmp), (45, .ifCond .ne 31, 76, 0, 0, 0, []), (48, e0 (.aload_n 0)), (49, e0 (.aload_n 0)), (50, e0 (.aload_n 1)), (51, e0 (.iload 4))]),
  (70, [(53, e0 (.aload_n 0)), (54, e0 (.aload_n 1)), (55, e0 (.iload 4)), (57, .invokevirtual 238, 26, 2, 12, 0, [30070, 10003, 30073, 30072, 17]), (60, .invokevirtual 241, 27, 3, 12, 0, [30074, 10003, 30077, 30076, 18]), (63, .putfield 62, 1, 15, 0, 0, [10179]), (66, e0 (.aload_n 0)), (67, .getfield 62, 1, 15, 0, 0, [10179])]),
  (87, [(70, .ifCond .eq 6, 76, 0, 0, 0, []), (73, e0 (.iload 4)), (75, e0 .ireturn), (76, e0 (.iinc 4 1)), (79, .goto (-56), 23, 0, 0, 0, []), (82, e0 (.aload_n 0)), (83, e0 (.iconst 0)), (84, .putfield 62, 1, 15, 0, 0, [10179])]),
  (100000, [(87, e0 (.bipush (-4))), (89, e0 .ireturn)])]
def in_25 : MI := (⟨"HarbourTugs$Harbour", "seekBest", "(LHarbourTugs$Ship;)I"⟩, prog_3_method_22_code, 5, some .int, 4, 0, 0, 111, es_25)
-- 26: HarbourTugs$Harbour tugsFor (LHarbourTugs$Ship;I)I
def es_26 : List (Nat × List (Nat × Ent)) := [(14, [(0, e0 (.iconst 0)), (1, e0 (.istore_n 3)), (2, e0 (.aload_n 1)), (3, e0 (.iload_n 2)), (4, .invokevirtual 191, 60, 1, 42, 0, [20180, 10005, 20183, 20181, 20182]), (7, e0 (.lstore 4)), (9, e0 (.iconst 0)), (10, e0 (.istore 6)), (12, e0 (.iload 6))]),
  (32, [(14, e0 (.aload_n 0)), (15, .getfield 44, 1, 9, 0, 0, [10167]), (18, .if_icmp .ge 106, 124, 0, 0, 0, []), (21, e0 (.iload 6)), (23, e0 (.aload_n 0)), (24, .getfield 20, 1, 3, 5008, 0, [10154]), (27, e0 .arraylength), (28, .if_icmp .ge 96, 124, 0, 0, 0, []), (31, e0 (.aload_n 0))]),
  (50, [(32, .getfield 20, 1, 3, 5008, 0, [10154]), (35, e0 (.iload 6)), (37, e0 .aaload), (38, e0 (.astore 7)), (40, e0 (.aload 7)), (42, .getfield 100, 5, 8, 1, 0, [10073]), (45, e0 (.lload 4)), (47, e0 .lor), (48, e0 (.lstore 8))]),
  (68, [(50, e0 (.aload 7)), (52, e0 (.lload 4)), (54, .invokevirtual 220, 68, 1, 52, 0, [30001, 10004, 20138, 20136, 20137]), (57, .ifCond .eq 61, 118, 0, 0, 0, []), (60, e0 (.aload 7)), (62, e0 (.iload_n 2)), (63, e0 (.aload_n 1)), (64, .getfield 153, 4, 3, 0, 0, [10113]), (67, e0 .iadd)]),
  (84, [(68, e0 (.iconst 1)), (69, e0 .isub), (70, .invokevirtual 159, 66, 1, 52, 0, [20232, 10004, 20142, 20140, 20141]), (73, .ifCond .ne 45, 118, 0, 0, 0, []), (76, e0 (.aload_n 0)), (77, e0 (.iload 6)), (79, e0 (.aload_n 1)), (80, e0 (.iload_n 2)), (81, .invokevirtual 231, 20, 3, 12, 0, [30017, 10003, 30020, 30019, 13])]),
  (105, [(84, .ifCond .eq 34, 118, 0, 0, 0, []), (87, e0 (.aload 7)), (89, e0 (.lload 8)), (91, e0 (.aload_n 0)), (92, .getfield 30, 1, 5, 0, 0, [10159]), (95, .invokevirtual 227, 72, 2, 52, 0, [30012, 10004, 30015, 30013, 30014]), (98, .ifCond .eq 20, 118, 0, 0, 0, []), (101, e0 (.aload 7)), (103, e0 (.lload 8))]),
  (121, [(105, .invokevirtual 224, 70, 1, 52, 0, [30002, 10004, 30005, 30003, 30004]), (108, .ifCond .eq 10, 118, 0, 0, 0, []), (111, e0 (.iload_n 3)), (112, e0 (.iconst 1)), (113, e0 (.iload 6)), (115, e0 .ishl), (116, e0 .ior), (117, e0 (.istore_n 3)), (118, e0 (.iinc 6 1))]),
  (100000, [(121, .goto (-109), 12, 0, 0, 0, []), (124, e0 (.iload_n 3)), (125, e0 .ireturn)])]
def in_26 : MI := (⟨"HarbourTugs$Harbour", "tugsFor", "(LHarbourTugs$Ship;I)I"⟩, prog_3_method_23_code, 10, some .int, 3, 0, 0, 76, es_26)
-- 27: HarbourTugs$Harbour leastSet (LHarbourTugs$Ship;II)I
def es_27 : List (Nat × List (Nat × Ent)) := [(11, [(0, e0 (.aload_n 0)), (1, e0 (.aload_n 1)), (2, e0 (.iload_n 2)), (3, e0 (.iload_n 2)), (4, e0 (.aload_n 1)), (5, .getfield 153, 4, 3, 0, 0, [10113]), (8, e0 .iadd), (9, e0 (.iconst 1)), (10, e0 .isub)]),
  (28, [(11, .invokevirtual 199, 11, 3, 12, 0, [20194, 10003, 20197, 20195, 20196]), (14, e0 (.istore 4)), (16, e0 (.aload_n 0)), (17, e0 (.iload_n 3)), (18, .invokevirtual 195, 12, 1, 12, 0, [20187, 10003, 20190, 20188, 20189]), (21, e0 (.iload 4)), (23, .if_icmp .lt 11, 34, 0, 0, 0, []), (26, e0 (.aload_n 0)), (27, e0 (.iload_n 3))]),
  (44, [(28, .invokevirtual 203, 13, 1, 12, 0, [20202, 10003, 20205, 20204, 6]), (31, .ifCond .ne 5, 36, 0, 0, 0, []), (34, e0 (.iconst 0)), (35, e0 .ireturn), (36, e0 (.iconst 0)), (37, e0 (.istore 5)), (39, e0 (.iconst 1)), (40, e0 (.istore 6)), (42, e0 (.iload 6))]),
  (58, [(44, e0 (.iload_n 3)), (45, .if_icmp .gt 76, 121, 0, 0, 0, []), (48, e0 (.iload 6)), (50, e0 (.iload_n 3)), (51, e0 (.iconst (-1))), (52, e0 .ixor), (53, e0 .iand), (54, .ifCond .ne 61, 115, 0, 0, 0, []), (57, e0 (.aload_n 0))]),
  (79, [(58, e0 (.iload 6)), (60, .invokevirtual 195, 12, 1, 12, 0, [20187, 10003, 20190, 20188, 20189]), (63, e0 (.iload 4)), (65, .if_icmp .lt 50, 115, 0, 0, 0, []), (68, e0 (.aload_n 0)), (69, e0 (.iload 6)), (71, .invokevirtual 203, 13, 1, 12, 0, [20202, 10003, 20205, 20204, 6]), (74, .ifCond .eq 41, 115, 0, 0, 0, []), (77, e0 (.iload 5))]),
  (100, [(79, .ifCond .eq 14, 93, 0, 0, 0, []), (82, e0 (.aload_n 0)), (83, e0 (.iload 6)), (85, e0 (.iload 5)), (87, .invokevirtual 244, 28, 2, 12, 0, [30078, 10003, 30081, 30080, 19]), (90, .ifCond .eq 25, 115, 0, 0, 0, []), (93, e0 (.aload_n 0)), (94, .getfield 34, 1, 6, 0, 0, [10161]), (97, .ifCond .eq 14, 111, 0, 0, 0, [])]),
  (118, [(100, e0 (.aload_n 0)), (101, e0 (.aload_n 1)), (102, e0 (.iload_n 2)), (103, e0 (.iload 6)), (105, .invokevirtual 209, 16, 3, 12, 0, [20224, 10003, 20227, 20226, 9]), (108, .ifCond .eq 7, 115, 0, 0, 0, []), (111, e0 (.iload 6)), (113, e0 (.istore 5)), (115, e0 (.iinc 6 1))]),
  (100000, [(118, .goto (-76), 42, 0, 0, 0, []), (121, e0 (.iload 5)), (123, e0 .ireturn)])]
def in_27 : MI := (⟨"HarbourTugs$Harbour", "leastSet", "(LHarbourTugs$Ship;II)I"⟩, prog_3_method_24_code, 7, some .int, 3, 0, 0, 85, es_27)
-- 28: HarbourTugs$Harbour isLess (II)Z
def es_28 : List (Nat × List (Nat × Ent)) := [(11, [(0, e0 (.iload_n 1)), (1, .invokestatic 247, 193, 1, 0, 0, [30082, 10011, 30084, 30083]), (4, e0 (.istore_n 3)), (5, e0 (.iload_n 2)), (6, .invokestatic 247, 193, 1, 0, 0, [30082, 10011, 30084, 30083]), (9, e0 (.istore 4))]),
  (23, [(11, e0 (.iload_n 3)), (12, e0 (.iload 4)), (14, .if_icmp .eq 17, 31, 0, 0, 0, []), (17, e0 (.iload_n 3)), (18, e0 (.iload 4)), (20, .if_icmp .ge 7, 27, 0, 0, 0, [])]),
  (33, [(23, e0 (.iconst 1)), (24, .goto 25, 49, 0, 0, 0, []), (27, e0 (.iconst 0)), (28, .goto 21, 49, 0, 0, 0, []), (31, e0 (.aload_n 0)), (32, e0 (.iload_n 1))]),
  (45, [(33, .invokevirtual 195, 12, 1, 12, 0, [20187, 10003, 20190, 20188, 20189]), (36, e0 (.aload_n 0)), (37, e0 (.iload_n 2)), (38, .invokevirtual 195, 12, 1, 12, 0, [20187, 10003, 20190, 20188, 20189]), (41, .if_icmp .ge 7, 48, 0, 0, 0, []), (44, e0 (.iconst 1))]),
  (100000, [(45, .goto 4, 49, 0, 0, 0, []), (48, e0 (.iconst 0)), (49, e0 .ireturn)])]
def in_28 : MI := (⟨"HarbourTugs$Harbour", "isLess", "(II)Z"⟩, prog_3_method_25_code, 5, some .boolean, 2, 0, 0, 44, es_28)
-- 29: HarbourTugs$Harbour put (LHarbourTugs$Ship;II)V
def es_29 : List (Nat × List (Nat × Ent)) := [(12, [(0, e0 (.aload_n 1)), (1, e0 (.iload_n 2)), (2, .invokevirtual 191, 60, 1, 42, 0, [20180, 10005, 20183, 20181, 20182]), (5, e0 (.lstore 4)), (7, e0 (.iconst 0)), (8, e0 (.istore 6)), (10, e0 (.iload 6))]),
  (26, [(12, e0 (.aload_n 0)), (13, .getfield 20, 1, 3, 5008, 0, [10154]), (16, e0 .arraylength), (17, .if_icmp .ge 35, 52, 0, 0, 0, []), (20, e0 (.iload 6)), (22, e0 (.iload_n 3)), (23, .invokestatic 133, 113, 2, 1, 0, [20191, 10001, 20193, 20192])]),
  (40, [(26, .ifCond .eq 20, 46, 0, 0, 0, []), (29, e0 (.aload_n 0)), (30, .getfield 20, 1, 3, 5008, 0, [10154]), (33, e0 (.iload 6)), (35, e0 .aaload), (36, e0 .dup), (37, .getfield 100, 5, 8, 1, 0, [10073])]),
  (54, [(40, e0 (.lload 4)), (42, e0 .lor), (43, .putfield 100, 5, 8, 1, 0, [10073]), (46, e0 (.iinc 6 1)), (49, .goto (-39), 10, 0, 0, 0, []), (52, e0 (.aload_n 1)), (53, e0 (.iload_n 2))]),
  (67, [(54, .putfield 170, 4, 7, 0, 0, [10124]), (57, e0 (.aload_n 1)), (58, e0 (.iload_n 3)), (59, .putfield 251, 4, 8, 0, 0, [10128]), (62, e0 (.aload_n 0)), (63, e0 .dup), (64, .getfield 50, 1, 11, 0, 0, [10171])]),
  (100000, [(67, e0 (.iconst 1)), (68, e0 .iadd), (69, .putfield 50, 1, 11, 0, 0, [10171]), (72, e0 .return_)])]
def in_29 : MI := (⟨"HarbourTugs$Harbour", "put", "(LHarbourTugs$Ship;II)V"⟩, prog_3_method_26_code, 7, none, 2, 0, 0, 41, es_29)
-- 30: HarbourTugs$Harbour release (LHarbourTugs$Ship;II)I
def es_30 : List (Nat × List (Nat × Ent)) := [(13, [(0, e0 (.aload_n 1)), (1, .invokevirtual 149, 61, 0, 42, 0, [20218, 10005, 20221, 20219, 20220]), (4, e0 (.iload_n 3)), (5, .invokestatic 254, 112, 1, 1, 0, [30058, 10001, 20186, 20185]), (8, .ldc2_w 257, 0, 0, 0, (-1), [30059]), (11, e0 .lxor), (12, e0 .land)]),
  (24, [(13, e0 (.lstore 4)), (15, e0 (.iconst 0)), (16, e0 (.istore 6)), (18, e0 (.iconst 0)), (19, e0 (.istore 7)), (21, e0 (.iload 7)), (23, e0 (.aload_n 0))]),
  (40, [(24, .getfield 20, 1, 3, 5008, 0, [10154]), (27, e0 .arraylength), (28, .if_icmp .ge 60, 88, 0, 0, 0, []), (31, e0 (.iload 7)), (33, e0 (.iload_n 2)), (34, .invokestatic 133, 113, 2, 1, 0, [20191, 10001, 20193, 20192]), (37, .ifCond .eq 45, 82, 0, 0, 0, [])]),
  (54, [(40, e0 (.iload 6)), (42, e0 (.aload_n 0)), (43, .getfield 20, 1, 3, 5008, 0, [10154]), (46, e0 (.iload 7)), (48, e0 .aaload), (49, .getfield 100, 5, 8, 1, 0, [10073]), (52, e0 (.lload 4))]),
  (67, [(54, e0 .land), (55, .invokestatic 103, 192, 1, 0, 0, [30060, 10010, 30008, 30007]), (58, e0 .iadd), (59, e0 (.istore 6)), (61, e0 (.aload_n 0)), (62, .getfield 20, 1, 3, 5008, 0, [10154]), (65, e0 (.iload 7))]),
  (79, [(67, e0 .aaload), (68, e0 .dup), (69, .getfield 100, 5, 8, 1, 0, [10073]), (72, e0 (.lload 4)), (74, .ldc2_w 257, 0, 0, 0, (-1), [30059]), (77, e0 .lxor), (78, e0 .land)]),
  (100000, [(79, .putfield 100, 5, 8, 1, 0, [10073]), (82, e0 (.iinc 7 1)), (85, .goto (-64), 21, 0, 0, 0, []), (88, e0 (.iload 6)), (90, e0 .ireturn)])]
def in_30 : MI := (⟨"HarbourTugs$Harbour", "release", "(LHarbourTugs$Ship;II)I"⟩, prog_3_method_27_code, 8, some .int, 3, 0, 0, 61, es_30)
-- 31: HarbourTugs$Harbour lift (LHarbourTugs$Ship;)V
def es_31 : List (Nat × List (Nat × Ent)) := [(6, [(0, e0 (.aload_n 0)), (1, e0 (.aload_n 1)), (2, e0 (.aload_n 1)), (3, .getfield 251, 4, 8, 0, 0, [10128])]),
  (12, [(6, e0 (.iconst 0)), (7, .invokevirtual 259, 30, 3, 12, 0, [30054, 10003, 30057, 30056, 16]), (10, e0 .pop), (11, e0 (.aload_n 1))]),
  (100000, [(12, .invokevirtual 262, 57, 0, 42, 0, [30061, 10005, 20113, 20111, 20112]), (15, e0 .return_)])]
def in_31 : MI := (⟨"HarbourTugs$Harbour", "lift", "(LHarbourTugs$Ship;)V"⟩, prog_3_method_28_code, 2, none, 4, 0, 0, 88, es_31)
-- 32: HarbourTugs$Harbour liftAll (I)V
def es_32 : List (Nat × List (Nat × Ent)) := [(7, [(0, e0 (.iconst 0)), (1, e0 (.istore_n 2)), (2, e0 (.iload_n 2)), (3, e0 (.aload_n 0)), (4, .getfield 26, 1, 4, 4010, 0, [10156])]),
  (14, [(7, e0 .arraylength), (8, .if_icmp .ge 27, 35, 0, 0, 0, []), (11, e0 (.iload_n 1)), (12, e0 (.iload_n 2)), (13, e0 .iushr)]),
  (21, [(14, e0 (.iconst 1)), (15, e0 .iand), (16, .ifCond .eq 13, 29, 0, 0, 0, []), (19, e0 (.aload_n 0)), (20, e0 (.aload_n 0))]),
  (32, [(21, .getfield 26, 1, 4, 4010, 0, [10156]), (24, e0 (.iload_n 2)), (25, e0 .aaload), (26, .invokevirtual 265, 31, 1, 12, 0, [30172, 10003, 30053, 30051, 30052]), (29, e0 (.iinc 2 1))]),
  (100000, [(32, .goto (-30), 2, 0, 0, 0, []), (35, e0 .return_)])]
def in_32 : MI := (⟨"HarbourTugs$Harbour", "liftAll", "(I)V"⟩, prog_3_method_29_code, 3, none, 5, 0, 0, 109, es_32)
-- 33: HarbourTugs$Harbour takeOff (LHarbourTugs$Ship;I)I
def es_33 : List (Nat × List (Nat × Ent)) := [(7, [(0, e0 (.aload_n 0)), (1, e0 (.aload_n 1)), (2, e0 (.aload_n 1)), (3, .getfield 251, 4, 8, 0, 0, [10128]), (6, e0 (.iload_n 2))]),
  (16, [(7, .invokevirtual 259, 30, 3, 12, 0, [30054, 10003, 30057, 30056, 16]), (10, e0 (.istore_n 3)), (11, e0 (.aload_n 1)), (12, .invokevirtual 262, 57, 0, 42, 0, [30061, 10005, 20113, 20111, 20112]), (15, e0 (.aload_n 0))]),
  (25, [(16, e0 .dup), (17, .getfield 53, 1, 12, 0, 0, [10173]), (20, e0 (.iconst 1)), (21, e0 .iadd), (22, .putfield 53, 1, 12, 0, 0, [10173])]),
  (100000, [(25, e0 (.iload_n 3)), (26, e0 .ireturn)])]
def in_33 : MI := (⟨"HarbourTugs$Harbour", "takeOff", "(LHarbourTugs$Ship;I)I"⟩, prog_3_method_30_code, 4, some .int, 4, 0, 0, 88, es_33)
-- 34: HarbourTugs$Harbour clearPlan ()V
def es_34 : List (Nat × List (Nat × Ent)) := [(9, [(0, e0 (.aload_n 0)), (1, .getfield 20, 1, 3, 5008, 0, [10154]), (4, e0 (.astore_n 1)), (5, e0 (.aload_n 1)), (6, e0 .arraylength), (7, e0 (.istore_n 2)), (8, e0 (.iconst 0))]),
  (18, [(9, e0 (.istore_n 3)), (10, e0 (.iload_n 3)), (11, e0 (.iload_n 2)), (12, .if_icmp .ge 20, 32, 0, 0, 0, []), (15, e0 (.aload_n 1)), (16, e0 (.iload_n 3)), (17, e0 .aaload)]),
  (33, [(18, e0 (.astore 4)), (20, e0 (.aload 4)), (22, e0 (.lconst 0)), (23, .putfield 100, 5, 8, 1, 0, [10073]), (26, e0 (.iinc 3 1)), (29, .goto (-19), 10, 0, 0, 0, []), (32, e0 (.aload_n 0))]),
  (42, [(33, .getfield 26, 1, 4, 4010, 0, [10156]), (36, e0 (.astore_n 1)), (37, e0 (.aload_n 1)), (38, e0 .arraylength), (39, e0 (.istore_n 2)), (40, e0 (.iconst 0)), (41, e0 (.istore_n 3))]),
  (52, [(42, e0 (.iload_n 3)), (43, e0 (.iload_n 2)), (44, .if_icmp .ge 19, 63, 0, 0, 0, []), (47, e0 (.aload_n 1)), (48, e0 (.iload_n 3)), (49, e0 .aaload), (50, e0 (.astore 4))]),
  (100000, [(52, e0 (.aload 4)), (54, .invokevirtual 262, 57, 0, 42, 0, [30061, 10005, 20113, 20111, 20112]), (57, e0 (.iinc 3 1)), (60, .goto (-18), 42, 0, 0, 0, []), (63, e0 .return_)])]
def in_34 : MI := (⟨"HarbourTugs$Harbour", "clearPlan", "()V"⟩, prog_3_method_31_code, 5, none, 1, 0, 0, 20, es_34)
-- 35: HarbourTugs$Harbour layEach ([II)I
def es_35 : List (Nat × List (Nat × Ent)) := [(13, [(0, e0 (.iconst 0)), (1, e0 (.istore_n 3)), (2, e0 (.iconst 0)), (3, e0 (.istore 4)), (5, e0 (.iload 4)), (7, e0 (.iload_n 2)), (8, .if_icmp .ge 96, 104, 0, 0, 0, []), (11, e0 (.iload 4))]),
  (25, [(13, e0 (.aload_n 1)), (14, e0 .arraylength), (15, .if_icmp .ge 89, 104, 0, 0, 0, []), (18, e0 (.aload_n 1)), (19, e0 (.iload 4)), (21, e0 .iaload), (22, e0 (.iconst 0)), (23, e0 (.bipush 7))]),
  (40, [(25, .invokestatic 116, 105, 3, 1, 0, [20126, 10001, 20058, 20057]), (28, .ifCond .eq 70, 98, 0, 0, 0, []), (31, e0 (.aload_n 0)), (32, .getfield 26, 1, 4, 4010, 0, [10156]), (35, e0 (.aload_n 1)), (36, e0 (.iload 4)), (38, e0 .iaload), (39, e0 .aaload)]),
  (58, [(40, e0 (.astore 5)), (42, e0 (.aload 5)), (44, .invokevirtual 84, 55, 0, 42, 0, [20081, 10005, 20084, 20082, 20083]), (47, .ifCond .eq 8, 55, 0, 0, 0, []), (50, e0 (.bipush (-4))), (52, .goto 9, 61, 0, 0, 0, []), (55, e0 (.aload_n 0)), (56, e0 (.aload 5))]),
  (75, [(58, .invokevirtual 268, 25, 1, 12, 0, [30132, 10003, 30069, 30067, 30068]), (61, e0 (.istore 6)), (63, e0 (.iload 6)), (65, e0 (.bipush (-4))), (67, .if_icmp .eq 15, 82, 0, 0, 0, []), (70, e0 (.aload_n 0)), (71, e0 (.aload 5)), (73, e0 (.iload 6))]),
  (92, [(75, e0 (.aload_n 0)), (76, .getfield 62, 1, 15, 0, 0, [10179]), (79, .invokevirtual 272, 29, 3, 12, 0, [30133, 10003, 30045, 30043, 30044]), (82, e0 (.iload_n 3)), (83, e0 (.aload 5)), (85, .invokevirtual 84, 55, 0, 42, 0, [20081, 10005, 20084, 20082, 20083]), (88, .ifCond .eq 7, 95, 0, 0, 0, []), (91, e0 (.iconst 1))]),
  (100000, [(92, .goto 4, 96, 0, 0, 0, []), (95, e0 (.iconst 0)), (96, e0 .iadd), (97, e0 (.istore_n 3)), (98, e0 (.iinc 4 1)), (101, .goto (-96), 5, 0, 0, 0, []), (104, e0 (.iload_n 3)), (105, e0 .ireturn)])]
def in_35 : MI := (⟨"HarbourTugs$Harbour", "layEach", "([II)I"⟩, prog_3_method_32_code, 7, some .int, 5, 0, 0, 135, es_35)
-- 36: HarbourTugs$Harbour waitedOf (I)I
def es_36 : List (Nat × List (Nat × Ent)) := [(5, [(0, e0 (.iconst 0)), (1, e0 (.istore_n 2)), (2, e0 (.iconst 0)), (3, e0 (.istore_n 3)), (4, e0 (.iload_n 3))]),
  (14, [(5, e0 (.iload_n 1)), (6, .if_icmp .ge 30, 36, 0, 0, 0, []), (9, e0 (.iload_n 3)), (10, e0 (.aload_n 0)), (11, .getfield 26, 1, 4, 4010, 0, [10156])]),
  (23, [(14, e0 .arraylength), (15, .if_icmp .ge 21, 36, 0, 0, 0, []), (18, e0 (.iload_n 2)), (19, e0 (.aload_n 0)), (20, .getfield 26, 1, 4, 4010, 0, [10156])]),
  (30, [(23, e0 (.iload_n 3)), (24, e0 .aaload), (25, .invokevirtual 276, 62, 0, 42, 0, [30138, 10005, 30141, 30139, 30140]), (28, e0 .iadd), (29, e0 (.istore_n 2))]),
  (100000, [(30, e0 (.iinc 3 1)), (33, .goto (-29), 4, 0, 0, 0, []), (36, e0 (.iload_n 2)), (37, e0 .ireturn)])]
def in_36 : MI := (⟨"HarbourTugs$Harbour", "waitedOf", "(I)I"⟩, prog_3_method_33_code, 4, some .int, 2, 0, 0, 40, es_36)
-- 37: HarbourTugs$Harbour breakDown (II)I
def es_37 : List (Nat × List (Nat × Ent)) := [(16, [(0, e0 (.iconst 0)), (1, e0 (.istore_n 3)), (2, e0 (.aload_n 0)), (3, .getfield 26, 1, 4, 4010, 0, [10156]), (6, e0 (.astore 4)), (8, e0 (.aload 4)), (10, e0 .arraylength), (11, e0 (.istore 5)), (13, e0 (.iconst 0)), (14, e0 (.istore 6))]),
  (36, [(16, e0 (.iload 6)), (18, e0 (.iload 5)), (20, .if_icmp .ge 101, 121, 0, 0, 0, []), (23, e0 (.aload 4)), (25, e0 (.iload 6)), (27, e0 .aaload), (28, e0 (.astore 7)), (30, e0 (.aload 7)), (32, e0 (.iload_n 1)), (33, .invokevirtual 163, 56, 1, 42, 0, [30025, 10005, 30028, 30026, 30027])]),
  (56, [(36, .ifCond .eq 79, 115, 0, 0, 0, []), (39, e0 (.aload 7)), (41, .invokevirtual 166, 58, 0, 42, 0, [30029, 10005, 30032, 30030, 30031]), (44, e0 (.iload_n 2)), (45, .if_icmp .lt 70, 115, 0, 0, 0, []), (48, e0 (.aload_n 0)), (49, e0 (.aload 7)), (51, e0 (.iload_n 1)), (52, e0 (.iload_n 2)), (53, .invokevirtual 279, 38, 3, 12, 0, [30192, 10003, 30195, 30194, 24])]),
  (71, [(56, .ifCond .eq 40, 96, 0, 0, 0, []), (59, e0 (.aload_n 0)), (60, e0 .dup), (61, .getfield 56, 1, 13, 0, 0, [10175]), (64, e0 (.aload_n 0)), (65, e0 (.aload 7)), (67, e0 (.iconst 1)), (68, e0 (.iload_n 1)), (69, e0 .ishl), (70, e0 (.iload_n 2))]),
  (88, [(71, .invokevirtual 259, 30, 3, 12, 0, [30054, 10003, 30057, 30056, 16]), (74, e0 .iadd), (75, .putfield 56, 1, 13, 0, 0, [10175]), (78, e0 (.aload 7)), (80, e0 .dup), (81, .getfield 251, 4, 8, 0, 0, [10128]), (84, e0 (.iconst 1)), (85, e0 (.iload_n 1)), (86, e0 .ishl), (87, e0 (.iconst (-1)))]),
  (105, [(88, e0 .ixor), (89, e0 .iand), (90, .putfield 251, 4, 8, 0, 0, [10128]), (93, .goto 22, 115, 0, 0, 0, []), (96, e0 (.aload_n 0)), (97, e0 .dup), (98, .getfield 56, 1, 13, 0, 0, [10175]), (101, e0 (.aload_n 0)), (102, e0 (.aload 7)), (104, e0 (.iload_n 2))]),
  (127, [(105, .invokevirtual 282, 33, 2, 12, 0, [30196, 10003, 30199, 30198, 25]), (108, e0 .iadd), (109, .putfield 56, 1, 13, 0, 0, [10175]), (112, e0 (.iinc 3 1)), (115, e0 (.iinc 6 1)), (118, .goto (-102), 16, 0, 0, 0, []), (121, e0 (.aload_n 0)), (122, .getfield 20, 1, 3, 5008, 0, [10154]), (125, e0 (.iload_n 1)), (126, e0 .aaload)]),
  (145, [(127, e0 (.iload_n 2)), (128, .putfield 285, 5, 7, 0, 0, [10071]), (131, e0 (.aload_n 0)), (132, .getfield 20, 1, 3, 5008, 0, [10154]), (135, e0 (.iload_n 1)), (136, e0 .aaload), (137, e0 .dup), (138, .getfield 288, 5, 9, 1, 0, [10077]), (141, e0 (.iload_n 2)), (142, .invokestatic 254, 112, 1, 1, 0, [30058, 10001, 20186, 20185])]),
  (100000, [(145, e0 .land), (146, .putfield 288, 5, 9, 1, 0, [10077]), (149, e0 (.iload_n 3)), (150, e0 .ireturn)])]
def in_37 : MI := (⟨"HarbourTugs$Harbour", "breakDown", "(II)I"⟩, prog_3_method_34_code, 8, some .int, 5, 0, 0, 111, es_37)
-- 38: HarbourTugs$Harbour goesOn (LHarbourTugs$Ship;II)Z
def es_38 : List (Nat × List (Nat × Ent)) := [(8, [(0, e0 (.aload_n 1)), (1, .getfield 251, 4, 8, 0, 0, [10128]), (4, e0 (.iconst 1)), (5, e0 (.iload_n 2)), (6, e0 .ishl), (7, e0 (.iconst (-1)))]),
  (17, [(8, e0 .ixor), (9, e0 .iand), (10, e0 (.istore 4)), (12, e0 (.aload_n 1)), (13, .getfield 170, 4, 7, 0, 0, [10124]), (16, e0 (.iload_n 3))]),
  (29, [(17, .if_icmp .ge 33, 50, 0, 0, 0, []), (20, e0 (.iload 4)), (22, .ifCond .eq 28, 50, 0, 0, 0, []), (25, e0 (.iconst 2)), (26, e0 (.aload_n 0)), (27, e0 (.iload 4))]),
  (37, [(29, .invokevirtual 195, 12, 1, 12, 0, [20187, 10003, 20190, 20188, 20189]), (32, e0 .imul), (33, e0 (.aload_n 0)), (34, e0 (.aload_n 1)), (35, e0 (.iload_n 3)), (36, e0 (.aload_n 1))]),
  (51, [(37, .invokevirtual 166, 58, 0, 42, 0, [30029, 10005, 30032, 30030, 30031]), (40, .invokevirtual 199, 11, 3, 12, 0, [20194, 10003, 20197, 20195, 20196]), (43, .if_icmp .lt 7, 50, 0, 0, 0, []), (46, e0 (.iconst 1)), (47, .goto 4, 51, 0, 0, 0, []), (50, e0 (.iconst 0))]),
  (100000, [(51, e0 .ireturn)])]
def in_38 : MI := (⟨"HarbourTugs$Harbour", "goesOn", "(LHarbourTugs$Ship;II)Z"⟩, prog_3_method_35_code, 5, some .boolean, 3, 0, 0, 85, es_38)
-- 39: HarbourTugs$Harbour blow (II)I
def es_39 : List (Nat × List (Nat × Ent)) := [(14, [(0, e0 (.iload_n 2)), (1, e0 (.iconst 1)), (2, e0 .iadd), (3, .invokestatic 254, 112, 1, 1, 0, [30058, 10001, 20186, 20185]), (6, e0 (.iload_n 1)), (7, .invokestatic 254, 112, 1, 1, 0, [30058, 10001, 20186, 20185]), (10, .ldc2_w 257, 0, 0, 0, (-1), [30059]), (13, e0 .lxor)]),
  (26, [(14, e0 .land), (15, e0 (.lstore_n 3)), (16, e0 (.aload_n 0)), (17, e0 .dup), (18, .getfield 40, 1, 8, 1, 0, [10165]), (21, e0 (.lload_n 3)), (22, e0 .lor), (23, .putfield 40, 1, 8, 1, 0, [10165])]),
  (40, [(26, e0 (.iconst 0)), (27, e0 (.istore 5)), (29, e0 (.aload_n 0)), (30, .getfield 26, 1, 4, 4010, 0, [10156]), (33, e0 (.astore 6)), (35, e0 (.aload 6)), (37, e0 .arraylength), (38, e0 (.istore 7))]),
  (55, [(40, e0 (.iconst 0)), (41, e0 (.istore 8)), (43, e0 (.iload 8)), (45, e0 (.iload 7)), (47, .if_icmp .ge 55, 102, 0, 0, 0, []), (50, e0 (.aload 6)), (52, e0 (.iload 8)), (54, e0 .aaload)]),
  (69, [(55, e0 (.astore 9)), (57, e0 (.aload 9)), (59, .invokevirtual 149, 61, 0, 42, 0, [20218, 10005, 20221, 20219, 20220]), (62, e0 (.lload_n 3)), (63, e0 .land), (64, e0 (.lconst 0)), (65, e0 .lcmp), (66, .ifCond .eq 30, 96, 0, 0, 0, [])]),
  (83, [(69, e0 (.aload_n 0)), (70, e0 .dup), (71, .getfield 59, 1, 14, 0, 0, [10177]), (74, e0 (.aload_n 0)), (75, e0 (.aload 9)), (77, e0 (.iload_n 1)), (78, e0 (.aload 9)), (80, .getfield 170, 4, 7, 0, 0, [10124])]),
  (104, [(83, .invokestatic 127, 0, 0, 8, 0, [20199, 20200, 10009, 20201]), (86, .invokevirtual 282, 33, 2, 12, 0, [30196, 10003, 30199, 30198, 25]), (89, e0 .iadd), (90, .putfield 59, 1, 14, 0, 0, [10177]), (93, e0 (.iinc 5 1)), (96, e0 (.iinc 8 1)), (99, .goto (-56), 43, 0, 0, 0, []), (102, e0 (.iload 5))]),
  (100000, [(104, e0 .ireturn)])]
def in_39 : MI := (⟨"HarbourTugs$Harbour", "blow", "(II)I"⟩, prog_3_method_36_code, 10, some .int, 5, 0, 0, 111, es_39)
-- 40: HarbourTugs$Planner <init> (LHarbourTugs$Berths;)V
def es_40 : List (Nat × List (Nat × Ent)) := [(12, [(0, e0 (.aload_n 0)), (1, .invokespecial 3, 0, 0, 6, 0, [10219, 10019, 10020]), (4, e0 (.aload_n 0)), (5, e0 (.iconst 4)), (6, .newarray .int, 1000, 0, 0, 0, [10036]), (8, .putfield 9, 2, 1, 1006, 0, [10223]), (11, e0 (.aload_n 0))]),
  (25, [(12, e0 (.iconst 4)), (13, .newarray .int, 1000, 0, 0, 0, [10036]), (15, .putfield 15, 2, 2, 1006, 0, [10225]), (18, e0 (.aload_n 0)), (19, e0 (.iconst 4)), (20, .newarray .int, 1000, 0, 0, 0, [10036]), (22, .putfield 18, 2, 3, 1006, 0, [10226])]),
  (36, [(25, e0 (.aload_n 0)), (26, e0 (.iconst 0)), (27, .putfield 21, 2, 4, 0, 0, [10228]), (30, e0 (.aload_n 0)), (31, e0 (.iconst 0)), (32, .putfield 25, 2, 5, 0, 0, [10230]), (35, e0 (.aload_n 0))]),
  (49, [(36, e0 (.iconst 0)), (37, .putfield 28, 2, 6, 0, 0, [10232]), (40, e0 (.aload_n 0)), (41, .new 31, 1, 0, 16, 0, [10220, 10038, 10003]), (44, e0 .dup), (45, e0 (.aload_n 1)), (46, .invokespecial 33, 4, 1, 4, 0, [10221, 10003, 10041, 10040])]),
  (60, [(49, .putfield 36, 2, 0, 3, 0, [10222]), (52, e0 (.iconst 0)), (53, e0 (.istore_n 2)), (54, e0 (.iload_n 2)), (55, e0 (.aload_n 0)), (56, .getfield 9, 2, 1, 1006, 0, [10223]), (59, e0 .arraylength)]),
  (73, [(60, .if_icmp .ge 16, 76, 0, 0, 0, []), (63, e0 (.aload_n 0)), (64, .getfield 9, 2, 1, 1006, 0, [10223]), (67, e0 (.iload_n 2)), (68, e0 (.iload_n 2)), (69, e0 .iastore), (70, e0 (.iinc 2 1))]),
  (100000, [(73, .goto (-19), 54, 0, 0, 0, []), (76, e0 .return_)])]
def in_40 : MI := (⟨"HarbourTugs$Planner", "<init>", "(LHarbourTugs$Berths;)V"⟩, prog_4_method_1_code, 3, none, 3, 22, 234, 62, es_40)
-- 41: HarbourTugs$Planner findOrder (LHarbourTugs$Harbour;I)V
def es_41 : List (Nat × List (Nat × Ent)) := [(16, [(0, e0 (.aload_n 0)), (1, .getfield 36, 2, 0, 3, 0, [10222]), (4, e0 (.aload_n 1)), (5, .invokevirtual 40, 5, 1, 12, 0, [30104, 10003, 30107, 30105, 30106]), (8, e0 (.aload_n 0)), (9, .getfield 9, 2, 1, 1006, 0, [10223]), (12, e0 (.aload_n 0)), (13, .getfield 15, 2, 2, 1006, 0, [10225])]),
  (30, [(16, .invokestatic 44, 42, 2, 0, 0, [30121, 10006, 30123, 30122]), (19, e0 (.iconst 1)), (20, e0 (.istore_n 3)), (21, e0 (.iconst 0)), (22, e0 (.istore 4)), (24, e0 (.iload_n 3)), (25, .ifCond .eq 83, 108, 0, 0, 0, []), (28, e0 (.iload 4))]),
  (47, [(30, e0 (.bipush 24)), (32, .if_icmp .ge 76, 108, 0, 0, 0, []), (35, e0 (.aload_n 0)), (36, .getfield 36, 2, 0, 3, 0, [10222]), (39, .invokevirtual 48, 34, 0, 12, 0, [30124, 10003, 30127, 30125, 30126]), (42, e0 (.aload_n 0)), (43, .getfield 36, 2, 0, 3, 0, [10222]), (46, e0 (.aload_n 0))]),
  (63, [(47, .getfield 15, 2, 2, 1006, 0, [10225]), (50, e0 (.iload_n 2)), (51, .invokevirtual 51, 35, 2, 12, 0, [30128, 10003, 30131, 30129, 30130]), (54, e0 .pop), (55, e0 (.aload_n 0)), (56, .getfield 36, 2, 0, 3, 0, [10222]), (59, e0 (.iload_n 2)), (60, .invokevirtual 55, 36, 1, 12, 0, [30134, 10003, 30137, 30135, 30136])]),
  (80, [(63, e0 (.istore 5)), (65, e0 (.iload 4)), (67, .ifCond .eq 12, 79, 0, 0, 0, []), (70, e0 (.iload 5)), (72, e0 (.aload_n 0)), (73, .getfield 25, 2, 5, 0, 0, [10230]), (76, .if_icmp .ge 20, 96, 0, 0, 0, []), (79, e0 (.aload_n 0))]),
  (97, [(80, e0 (.iload 5)), (82, .putfield 25, 2, 5, 0, 0, [10230]), (85, e0 (.aload_n 0)), (86, .getfield 15, 2, 2, 1006, 0, [10225]), (89, e0 (.aload_n 0)), (90, .getfield 18, 2, 3, 1006, 0, [10226]), (93, .invokestatic 44, 42, 2, 0, 0, [30121, 10006, 30123, 30122]), (96, e0 (.aload_n 0))]),
  (100000, [(97, e0 (.iload_n 2)), (98, .invokevirtual 59, 43, 1, 22, 0, [30142, 10006, 30145, 30144, 21]), (101, e0 (.istore_n 3)), (102, e0 (.iinc 4 1)), (105, .goto (-81), 24, 0, 0, 0, []), (108, e0 .return_)])]
def in_41 : MI := (⟨"HarbourTugs$Planner", "findOrder", "(LHarbourTugs$Harbour;I)V"⟩, prog_4_method_2_code, 6, none, 6, 0, 0, 161, es_41)
-- 42: HarbourTugs$Planner takeOver ([I[I)V
def es_42 : List (Nat × List (Nat × Ent)) := [(5, [(0, e0 (.iconst 0)), (1, e0 (.istore_n 2)), (2, e0 (.iload_n 2)), (3, e0 (.aload_n 0)), (4, e0 .arraylength)]),
  (14, [(5, .if_icmp .ge 21, 26, 0, 0, 0, []), (8, e0 (.iload_n 2)), (9, e0 (.aload_n 1)), (10, e0 .arraylength), (11, .if_icmp .ge 15, 26, 0, 0, 0, [])]),
  (19, [(14, e0 (.aload_n 1)), (15, e0 (.iload_n 2)), (16, e0 (.aload_n 0)), (17, e0 (.iload_n 2)), (18, e0 .iaload)]),
  (100000, [(19, e0 .iastore), (20, e0 (.iinc 2 1)), (23, .goto (-21), 2, 0, 0, 0, []), (26, e0 .return_)])]
def in_42 : MI := (⟨"HarbourTugs$Planner", "takeOver", "([I[I)V"⟩, prog_4_method_3_code, 3, none, 0, 0, 0, 0, es_42)
-- 43: HarbourTugs$Planner nextOrder (I)Z
def es_43 : List (Nat × List (Nat × Ent)) := [(17, [(0, e0 (.iload_n 1)), (1, e0 (.aload_n 0)), (2, .getfield 15, 2, 2, 1006, 0, [10225]), (5, e0 .arraylength), (6, .if_icmp .ge 7, 13, 0, 0, 0, []), (9, e0 (.iload_n 1)), (10, .goto 8, 18, 0, 0, 0, []), (13, e0 (.aload_n 0)), (14, .getfield 15, 2, 2, 1006, 0, [10225])]),
  (26, [(17, e0 .arraylength), (18, e0 (.iconst 1)), (19, e0 .isub), (20, e0 (.istore_n 2)), (21, e0 (.iload_n 2)), (22, e0 (.iconst 1)), (23, e0 .isub), (24, e0 (.istore_n 3)), (25, e0 (.iload_n 3))]),
  (41, [(26, .ifCond .lt 26, 52, 0, 0, 0, []), (29, e0 (.aload_n 0)), (30, .getfield 15, 2, 2, 1006, 0, [10225]), (33, e0 (.iload_n 3)), (34, e0 .iaload), (35, e0 (.aload_n 0)), (36, .getfield 15, 2, 2, 1006, 0, [10225]), (39, e0 (.iload_n 3)), (40, e0 (.iconst 1))]),
  (58, [(41, e0 .iadd), (42, e0 .iaload), (43, .if_icmp .le 9, 52, 0, 0, 0, []), (46, e0 (.iinc 3 (-1))), (49, .goto (-24), 25, 0, 0, 0, []), (52, e0 (.iload_n 3)), (53, .ifCond .ge 5, 58, 0, 0, 0, []), (56, e0 (.iconst 0)), (57, e0 .ireturn)]),
  (73, [(58, e0 (.iload_n 2)), (59, e0 (.istore 4)), (61, e0 (.iload 4)), (63, e0 (.iload_n 3)), (64, e0 (.iconst 1)), (65, e0 .iadd), (66, .if_icmp .le 25, 91, 0, 0, 0, []), (69, e0 (.aload_n 0)), (70, .getfield 15, 2, 2, 1006, 0, [10225])]),
  (91, [(73, e0 (.iload 4)), (75, e0 .iaload), (76, e0 (.aload_n 0)), (77, .getfield 15, 2, 2, 1006, 0, [10225]), (80, e0 (.iload_n 3)), (81, e0 .iaload), (82, .if_icmp .ge 9, 91, 0, 0, 0, []), (85, e0 (.iinc 4 (-1))), (88, .goto (-27), 61, 0, 0, 0, [])]),
  (104, [(91, e0 (.aload_n 0)), (92, e0 (.iload_n 3)), (93, e0 (.iload 4)), (95, .invokevirtual 63, 44, 2, 22, 0, [30146, 10006, 30149, 30148, 22]), (98, e0 (.iload_n 3)), (99, e0 (.iconst 1)), (100, e0 .iadd), (101, e0 (.istore 5)), (103, e0 (.iload_n 2))]),
  (124, [(104, e0 (.istore 6)), (106, e0 (.iload 5)), (108, e0 (.iload 6)), (110, .if_icmp .ge 20, 130, 0, 0, 0, []), (113, e0 (.aload_n 0)), (114, e0 (.iload 5)), (116, e0 (.iload 6)), (118, .invokevirtual 63, 44, 2, 22, 0, [30146, 10006, 30149, 30148, 22]), (121, e0 (.iinc 5 1))]),
  (100000, [(124, e0 (.iinc 6 (-1))), (127, .goto (-21), 106, 0, 0, 0, []), (130, e0 (.iconst 1)), (131, e0 .ireturn)])]
def in_43 : MI := (⟨"HarbourTugs$Planner", "nextOrder", "(I)Z"⟩, prog_4_method_4_code, 7, some .boolean, 1, 0, 0, 23, es_43)
-- 44: HarbourTugs$Planner exchange (II)V
def es_44 : List (Nat × List (Nat × Ent)) := [(7, [(0, e0 (.aload_n 0)), (1, .getfield 15, 2, 2, 1006, 0, [10225]), (4, e0 (.iload_n 1)), (5, e0 .iaload), (6, e0 (.istore_n 3))]),
  (16, [(7, e0 (.aload_n 0)), (8, .getfield 15, 2, 2, 1006, 0, [10225]), (11, e0 (.iload_n 1)), (12, e0 (.aload_n 0)), (13, .getfield 15, 2, 2, 1006, 0, [10225])]),
  (23, [(16, e0 (.iload_n 2)), (17, e0 .iaload), (18, e0 .iastore), (19, e0 (.aload_n 0)), (20, .getfield 15, 2, 2, 1006, 0, [10225])]),
  (100000, [(23, e0 (.iload_n 2)), (24, e0 (.iload_n 3)), (25, e0 .iastore), (26, e0 .return_)])]
def in_44 : MI := (⟨"HarbourTugs$Planner", "exchange", "(II)V"⟩, prog_4_method_5_code, 4, none, 0, 0, 0, 0, es_44)
-- 45: HarbourTugs$Planner findMended (LHarbourTugs$Harbour;I)V
def es_45 : List (Nat × List (Nat × Ent)) := [(10, [(0, e0 (.aload_n 0)), (1, e0 (.iconst (-1))), (2, .putfield 21, 2, 4, 0, 0, [10228]), (5, e0 (.iconst 0)), (6, e0 (.istore_n 3)), (7, e0 (.iload_n 3)), (8, e0 (.iconst 1)), (9, e0 (.iload_n 2))]),
  (26, [(10, e0 .ishl), (11, .if_icmp .ge 86, 97, 0, 0, 0, []), (14, e0 (.aload_n 1)), (15, e0 (.iload_n 3)), (16, .invokestatic 67, 46, 2, 0, 0, [30164, 10006, 30166, 30165]), (19, .ifCond .eq 72, 91, 0, 0, 0, []), (22, e0 (.aload_n 0)), (23, .getfield 36, 2, 0, 3, 0, [10222])]),
  (42, [(26, e0 (.aload_n 1)), (27, .invokevirtual 40, 5, 1, 12, 0, [30104, 10003, 30107, 30105, 30106]), (30, e0 (.aload_n 0)), (31, .getfield 36, 2, 0, 3, 0, [10222]), (34, e0 (.iload_n 3)), (35, .invokevirtual 71, 32, 1, 12, 0, [30168, 10003, 30171, 30169, 30170]), (38, e0 (.aload_n 0)), (39, .getfield 36, 2, 0, 3, 0, [10222])]),
  (57, [(42, e0 (.aload_n 0)), (43, .getfield 9, 2, 1, 1006, 0, [10223]), (46, e0 (.iload_n 2)), (47, .invokevirtual 51, 35, 2, 12, 0, [30128, 10003, 30131, 30129, 30130]), (50, e0 (.istore 4)), (52, e0 (.aload_n 0)), (53, .getfield 36, 2, 0, 3, 0, [10222]), (56, e0 (.iload_n 2))]),
  (74, [(57, .invokevirtual 55, 36, 1, 12, 0, [30134, 10003, 30137, 30135, 30136]), (60, e0 (.istore 5)), (62, e0 (.aload_n 0)), (63, e0 (.iload 4)), (65, e0 (.iload_n 3)), (66, e0 (.iload 5)), (68, .invokevirtual 75, 47, 3, 22, 0, [30173, 10006, 30176, 30175, 23]), (71, .ifCond .eq 20, 91, 0, 0, 0, [])]),
  (88, [(74, e0 (.aload_n 0)), (75, e0 (.iload 4)), (77, .putfield 21, 2, 4, 0, 0, [10228]), (80, e0 (.aload_n 0)), (81, e0 (.iload_n 3)), (82, .putfield 28, 2, 6, 0, 0, [10232]), (85, e0 (.aload_n 0)), (86, e0 (.iload 5))]),
  (100000, [(88, .putfield 25, 2, 5, 0, 0, [10230]), (91, e0 (.iinc 3 1)), (94, .goto (-87), 7, 0, 0, 0, []), (97, e0 .return_)])]
def in_45 : MI := (⟨"HarbourTugs$Planner", "findMended", "(LHarbourTugs$Harbour;I)V"⟩, prog_4_method_6_code, 6, none, 6, 0, 0, 161, es_45)
-- 46: HarbourTugs$Planner allHaveJobs (LHarbourTugs$Harbour;I)Z
def es_46 : List (Nat × List (Nat × Ent)) := [(7, [(0, e0 (.iconst 0)), (1, e0 (.istore_n 2)), (2, e0 (.iload_n 2)), (3, e0 (.aload_n 0)), (4, .getfield 79, 1, 4, 4010, 0, [10157])]),
  (14, [(7, e0 .arraylength), (8, .if_icmp .ge 31, 39, 0, 0, 0, []), (11, e0 (.iload_n 1)), (12, e0 (.iload_n 2)), (13, e0 .iushr)]),
  (23, [(14, e0 (.iconst 1)), (15, e0 .iand), (16, .ifCond .eq 17, 33, 0, 0, 0, []), (19, e0 (.aload_n 0)), (20, .getfield 79, 1, 4, 4010, 0, [10157])]),
  (32, [(23, e0 (.iload_n 2)), (24, e0 .aaload), (25, .invokevirtual 83, 55, 0, 42, 0, [30167, 10005, 20084, 20082, 20083]), (28, .ifCond .ne 5, 33, 0, 0, 0, []), (31, e0 (.iconst 0))]),
  (100000, [(32, e0 .ireturn), (33, e0 (.iinc 2 1)), (36, .goto (-34), 2, 0, 0, 0, []), (39, e0 (.iconst 1)), (40, e0 .ireturn)])]
def in_46 : MI := (⟨"HarbourTugs$Planner", "allHaveJobs", "(LHarbourTugs$Harbour;I)Z"⟩, prog_4_method_7_code, 3, some .boolean, 1, 0, 0, 20, es_46)
-- 47: HarbourTugs$Planner isBetter (III)Z
def es_47 : List (Nat × List (Nat × Ent)) := [(13, [(0, e0 (.iload_n 1)), (1, e0 (.aload_n 0)), (2, .getfield 21, 2, 4, 0, 0, [10228]), (5, .if_icmp .eq 17, 22, 0, 0, 0, []), (8, e0 (.iload_n 1)), (9, e0 (.aload_n 0)), (10, .getfield 21, 2, 4, 0, 0, [10228])]),
  (26, [(13, .if_icmp .le 7, 20, 0, 0, 0, []), (16, e0 (.iconst 1)), (17, .goto 4, 21, 0, 0, 0, []), (20, e0 (.iconst 0)), (21, e0 .ireturn), (22, e0 (.iload_n 2)), (23, .invokestatic 89, 193, 1, 0, 0, [30177, 10011, 30084, 30083])]),
  (41, [(26, e0 (.istore 4)), (28, e0 (.aload_n 0)), (29, .getfield 28, 2, 6, 0, 0, [10232]), (32, .invokestatic 89, 193, 1, 0, 0, [30177, 10011, 30084, 30083]), (35, e0 (.istore 5)), (37, e0 (.iload 4)), (39, e0 (.iload 5))]),
  (56, [(41, .if_icmp .eq 18, 59, 0, 0, 0, []), (44, e0 (.iload 4)), (46, e0 (.iload 5)), (48, .if_icmp .ge 7, 55, 0, 0, 0, []), (51, e0 (.iconst 1)), (52, .goto 20, 72, 0, 0, 0, []), (55, e0 (.iconst 0))]),
  (71, [(56, .goto 16, 72, 0, 0, 0, []), (59, e0 (.iload_n 3)), (60, e0 (.aload_n 0)), (61, .getfield 25, 2, 5, 0, 0, [10230]), (64, .if_icmp .ge 7, 71, 0, 0, 0, []), (67, e0 (.iconst 1)), (68, .goto 4, 72, 0, 0, 0, [])]),
  (100000, [(71, e0 (.iconst 0)), (72, e0 .ireturn)])]
def in_47 : MI := (⟨"HarbourTugs$Planner", "isBetter", "(III)Z"⟩, prog_4_method_8_code, 6, some .boolean, 1, 0, 0, 20, es_47)
-- 48: HarbourTugs$Prices <init> ()V
def es_48 : List (Nat × List (Nat × Ent)) := [(9, [(0, e0 (.aload_n 0)), (1, .invokespecial 3, 0, 0, 6, 0, [20014, 10019, 10020]), (4, e0 (.aload_n 0)), (5, e0 (.bipush 12)), (7, .newarray .int, 1000, 0, 0, 0, [10036])]),
  (20, [(9, .putfield 9, 3, 0, 1014, 0, [20015]), (12, e0 (.aload_n 0)), (13, e0 (.bipush 12)), (15, .newarray .int, 1000, 0, 0, 0, [10036]), (17, .putfield 15, 3, 1, 1014, 0, [20016])]),
  (29, [(20, e0 (.aload_n 0)), (21, e0 (.bipush 12)), (23, .newarray .int, 1000, 0, 0, 0, [10036]), (25, .putfield 18, 3, 2, 1014, 0, [20017]), (28, e0 (.aload_n 0))]),
  (38, [(29, e0 (.bipush 12)), (31, .newarray .int, 1000, 0, 0, 0, [10036]), (33, .putfield 21, 3, 3, 1014, 0, [20018]), (36, e0 (.aload_n 0)), (37, e0 (.iconst 0))]),
  (100000, [(38, .putfield 24, 3, 4, 0, 0, [20019]), (41, e0 .return_)])]
def in_48 : MI := (⟨"HarbourTugs$Prices", "<init>", "()V"⟩, prog_5_method_1_code, 1, none, 1, 4, 48, 20, es_48)
-- 49: HarbourTugs$Prices tell (IIII)Z
def es_49 : List (Nat × List (Nat × Ent)) := [(14, [(0, e0 (.aload_n 0)), (1, .getfield 24, 3, 4, 0, 0, [20019]), (4, e0 (.iconst 0)), (5, e0 (.bipush 11)), (7, .invokestatic 28, 105, 3, 1, 0, [30230, 10001, 20058, 20057]), (10, .ifCond .ne 5, 15, 0, 0, 0, []), (13, e0 (.iconst 0))]),
  (25, [(14, e0 .ireturn), (15, e0 (.aload_n 0)), (16, .getfield 9, 3, 0, 1014, 0, [20015]), (19, e0 (.aload_n 0)), (20, .getfield 24, 3, 4, 0, 0, [20019]), (23, e0 (.iload_n 1)), (24, e0 .iastore)]),
  (36, [(25, e0 (.aload_n 0)), (26, .getfield 15, 3, 1, 1014, 0, [20016]), (29, e0 (.aload_n 0)), (30, .getfield 24, 3, 4, 0, 0, [20019]), (33, e0 (.iload_n 2)), (34, e0 .iastore), (35, e0 (.aload_n 0))]),
  (49, [(36, .getfield 18, 3, 2, 1014, 0, [20017]), (39, e0 (.aload_n 0)), (40, .getfield 24, 3, 4, 0, 0, [20019]), (43, e0 (.iload_n 3)), (44, e0 .iastore), (45, e0 (.aload_n 0)), (46, .getfield 21, 3, 3, 1014, 0, [20018])]),
  (61, [(49, e0 (.aload_n 0)), (50, .getfield 24, 3, 4, 0, 0, [20019]), (53, e0 (.iload 4)), (55, e0 .iastore), (56, e0 (.aload_n 0)), (57, e0 .dup), (58, .getfield 24, 3, 4, 0, 0, [20019])]),
  (100000, [(61, e0 (.iconst 1)), (62, e0 .iadd), (63, .putfield 24, 3, 4, 0, 0, [20019]), (66, e0 (.iconst 1)), (67, e0 .ireturn)])]
def in_49 : MI := (⟨"HarbourTugs$Prices", "tell", "(IIII)Z"⟩, prog_5_method_2_code, 5, some .boolean, 1, 0, 0, 22, es_49)
-- 50: HarbourTugs$Prices priceOf (LHarbourTugs$Harbour;LHarbourTugs$Ship;)J
def es_50 : List (Nat × List (Nat × Ent)) := [(14, [(0, e0 (.lconst 0)), (1, e0 (.lstore_n 3)), (2, e0 (.iconst 0)), (3, e0 (.istore 5)), (5, e0 (.iload 5)), (7, e0 (.aload_n 0)), (8, .getfield 24, 3, 4, 0, 0, [20019]), (11, .if_icmp .ge 76, 87, 0, 0, 0, [])]),
  (29, [(14, e0 (.iload 5)), (16, e0 (.bipush 12)), (18, .if_icmp .ge 69, 87, 0, 0, 0, []), (21, e0 (.aload_n 0)), (22, .getfield 9, 3, 0, 1014, 0, [20015]), (25, e0 (.iload 5)), (27, e0 .iaload), (28, e0 (.aload_n 0))]),
  (44, [(29, .getfield 15, 3, 1, 1014, 0, [20016]), (32, e0 (.iload 5)), (34, e0 .iaload), (35, e0 (.aload_n 1)), (36, e0 (.aload_n 2)), (37, .invokestatic 32, 51, 4, 0, 0, [40000, 10007, 40002, 40001]), (40, .ifCond .eq 41, 81, 0, 0, 0, []), (43, e0 (.lload_n 3))]),
  (60, [(44, e0 (.aload_n 0)), (45, .getfield 18, 3, 2, 1014, 0, [20017]), (48, e0 (.iload 5)), (50, e0 .iaload), (51, .ifCond .ne 14, 65, 0, 0, 0, []), (54, e0 (.aload_n 0)), (55, .getfield 21, 3, 3, 1014, 0, [20018]), (58, e0 (.iload 5))]),
  (73, [(60, e0 .iaload), (61, e0 .i2l), (62, .goto 17, 79, 0, 0, 0, []), (65, e0 (.lload_n 3)), (66, e0 (.aload_n 0)), (67, .getfield 21, 3, 3, 1014, 0, [20018]), (70, e0 (.iload 5)), (72, e0 .iaload)]),
  (87, [(73, e0 .i2l), (74, e0 .lmul), (75, .ldc2_w 36, 0, 0, 0, 100, [40006]), (78, e0 .ldiv), (79, e0 .ladd), (80, e0 (.lstore_n 3)), (81, e0 (.iinc 5 1)), (84, .goto (-79), 5, 0, 0, 0, [])]),
  (100000, [(87, e0 (.lload_n 3)), (88, e0 .lreturn)])]
def in_50 : MI := (⟨"HarbourTugs$Prices", "priceOf", "(LHarbourTugs$Harbour;LHarbourTugs$Ship;)J"⟩, prog_5_method_3_code, 6, some .long, 3, 0, 0, 67, es_50)
-- 51: HarbourTugs$Prices isSo (IILHarbourTugs$Harbour;LHarbourTugs$Ship;)Z
def es_51 : List (Nat × List (Nat × Ent)) := [(51, [(0, e0 (.iload_n 0)), (1, .tableswitch 149 0 5 #[39, 41, 55, 84, 114, 131], 150, 0, 39, 0, [40, 42, 56, 85, 115, 132]), (40, e0 (.iconst 1)), (41, e0 .ireturn), (42, e0 (.aload_n 3)), (43, .getfield 38, 4, 0, 0, 0, [10105]), (46, e0 (.iload_n 1)), (47, .if_icmp .lt 7, 54, 0, 0, 0, []), (50, e0 (.iconst 1))]),
  (70, [(51, .goto 4, 55, 0, 0, 0, []), (54, e0 (.iconst 0)), (55, e0 .ireturn), (56, e0 (.aload_n 3)), (57, .getfield 43, 4, 7, 0, 0, [10122]), (60, .invokestatic 46, 106, 1, 1, 0, [40003, 10001, 20065, 20064]), (63, .ifCond .eq 20, 83, 0, 0, 0, []), (66, e0 (.aload_n 2)), (67, .getfield 50, 1, 2, 1050, 0, [10153])]),
  (85, [(70, e0 (.aload_n 3)), (71, .getfield 43, 4, 7, 0, 0, [10122]), (74, e0 .iaload), (75, e0 (.iload_n 1)), (76, .if_icmp .lt 7, 83, 0, 0, 0, []), (79, e0 (.iconst 1)), (80, .goto 4, 84, 0, 0, 0, []), (83, e0 (.iconst 0)), (84, e0 .ireturn)]),
  (103, [(85, e0 (.aload_n 3)), (86, .getfield 43, 4, 7, 0, 0, [10122]), (89, e0 (.bipush 24)), (91, e0 .irem), (92, e0 (.bipush 6)), (94, .if_icmp .lt 15, 109, 0, 0, 0, []), (97, e0 (.aload_n 3)), (98, .getfield 43, 4, 7, 0, 0, [10122]), (101, e0 (.bipush 24))]),
  (119, [(103, e0 .irem), (104, e0 (.bipush 20)), (106, .if_icmp .lt 7, 113, 0, 0, 0, []), (109, e0 (.iconst 1)), (110, .goto 4, 114, 0, 0, 0, []), (113, e0 (.iconst 0)), (114, e0 .ireturn), (115, e0 (.aload_n 3)), (116, .getfield 55, 4, 8, 0, 0, [10126])]),
  (134, [(119, .invokestatic 58, 193, 1, 0, 0, [40004, 10011, 30084, 30083]), (122, e0 (.iload_n 1)), (123, .if_icmp .lt 7, 130, 0, 0, 0, []), (126, e0 (.iconst 1)), (127, .goto 4, 131, 0, 0, 0, []), (130, e0 (.iconst 0)), (131, e0 .ireturn), (132, e0 (.aload_n 2)), (133, e0 (.aload_n 3))]),
  (151, [(134, .getfield 55, 4, 8, 0, 0, [10126]), (137, .invokevirtual 64, 12, 1, 12, 0, [40005, 10003, 20190, 20188, 20189]), (140, e0 (.iload_n 1)), (141, .if_icmp .lt 7, 148, 0, 0, 0, []), (144, e0 (.iconst 1)), (145, .goto 4, 149, 0, 0, 0, []), (148, e0 (.iconst 0)), (149, e0 .ireturn), (150, e0 (.aload_n 3))]),
  (168, [(151, .getfield 43, 4, 7, 0, 0, [10122]), (154, e0 (.aload_n 3)), (155, .getfield 67, 4, 2, 0, 0, [10110]), (158, e0 .isub), (159, e0 (.iload_n 1)), (160, .if_icmp .lt 7, 167, 0, 0, 0, []), (163, e0 (.iconst 1)), (164, .goto 4, 168, 0, 0, 0, []), (167, e0 (.iconst 0))]),
  (100000, [(168, e0 .ireturn)])]
def in_51 : MI := (⟨"HarbourTugs$Prices", "isSo", "(IILHarbourTugs$Harbour;LHarbourTugs$Ship;)Z"⟩, prog_5_method_4_code, 4, some .boolean, 2, 0, 0, 44, es_51)
-- 52: HarbourTugs$Ship <init> ()V
def es_52 : List (Nat × List (Nat × Ent)) := [(7, [(0, e0 (.aload_n 0)), (1, .invokespecial 3, 0, 0, 6, 0, [10103, 10019, 10020]), (4, e0 (.aload_n 0)), (5, e0 (.bipush (-4)))]),
  (100000, [(7, .putfield 9, 4, 7, 0, 0, [10121]), (10, e0 .return_)])]
def in_52 : MI := (⟨"HarbourTugs$Ship", "<init>", "()V"⟩, prog_6_method_1_code, 1, none, 1, 0, 0, 20, es_52)
-- 53: HarbourTugs$Ship come (IIIIIII)V
def es_53 : List (Nat × List (Nat × Ent)) := [(7, [(0, e0 (.aload_n 0)), (1, e0 (.iload_n 1)), (2, .putfield 15, 4, 0, 0, 0, [10104]), (5, e0 (.aload_n 0)), (6, e0 (.iload_n 2))]),
  (16, [(7, .putfield 18, 4, 1, 0, 0, [10107]), (10, e0 (.aload_n 0)), (11, e0 (.iload_n 3)), (12, .putfield 21, 4, 2, 0, 0, [10109]), (15, e0 (.aload_n 0))]),
  (27, [(16, e0 (.iload 4)), (18, .putfield 24, 4, 3, 0, 0, [10112]), (21, e0 (.aload_n 0)), (22, e0 (.iload 5)), (24, .putfield 27, 4, 4, 0, 0, [10114])]),
  (36, [(27, e0 (.aload_n 0)), (28, e0 (.iload 6)), (30, .putfield 30, 4, 5, 0, 0, [10115]), (33, e0 (.aload_n 0)), (34, e0 (.iload 7))]),
  (100000, [(36, .putfield 33, 4, 6, 0, 0, [10118]), (39, e0 (.aload_n 0)), (40, .invokevirtual 36, 57, 0, 42, 0, [20110, 10005, 20113, 20111, 20112]), (43, e0 .return_)])]
def in_53 : MI := (⟨"HarbourTugs$Ship", "come", "(IIIIIII)V"⟩, prog_6_method_2_code, 8, none, 1, 0, 0, 20, es_53)
-- 54: HarbourTugs$Ship copyFrom (LHarbourTugs$Ship;)V
def es_54 : List (Nat × List (Nat × Ent)) := [(9, [(0, e0 (.aload_n 0)), (1, e0 (.aload_n 1)), (2, .getfield 15, 4, 0, 0, 0, [10104]), (5, e0 (.aload_n 1)), (6, .getfield 18, 4, 1, 0, 0, [10107])]),
  (18, [(9, e0 (.aload_n 1)), (10, .getfield 21, 4, 2, 0, 0, [10109]), (13, e0 (.aload_n 1)), (14, .getfield 24, 4, 3, 0, 0, [10112]), (17, e0 (.aload_n 1))]),
  (29, [(18, .getfield 27, 4, 4, 0, 0, [10114]), (21, e0 (.aload_n 1)), (22, .getfield 30, 4, 5, 0, 0, [10115]), (25, e0 (.aload_n 1)), (26, .getfield 33, 4, 6, 0, 0, [10118])]),
  (40, [(29, .invokevirtual 39, 53, 7, 42, 0, [30120, 10005, 20109, 20107, 20108]), (32, e0 (.aload_n 0)), (33, e0 (.aload_n 1)), (34, .getfield 9, 4, 7, 0, 0, [10121]), (37, .putfield 9, 4, 7, 0, 0, [10121])]),
  (100000, [(40, e0 (.aload_n 0)), (41, e0 (.aload_n 1)), (42, .getfield 43, 4, 8, 0, 0, [10125]), (45, .putfield 43, 4, 8, 0, 0, [10125]), (48, e0 .return_)])]
def in_54 : MI := (⟨"HarbourTugs$Ship", "copyFrom", "(LHarbourTugs$Ship;)V"⟩, prog_6_method_3_code, 2, none, 2, 0, 0, 47, es_54)
-- 55: HarbourTugs$Ship hasJob ()Z
def es_55 : List (Nat × List (Nat × Ent)) := [(9, [(0, e0 (.aload_n 0)), (1, .getfield 9, 4, 7, 0, 0, [10121]), (4, e0 (.bipush (-4))), (6, .if_icmp .eq 7, 13, 0, 0, 0, [])]),
  (100000, [(9, e0 (.iconst 1)), (10, .goto 4, 14, 0, 0, 0, []), (13, e0 (.iconst 0)), (14, e0 .ireturn)])]
def in_55 : MI := (⟨"HarbourTugs$Ship", "hasJob", "()Z"⟩, prog_6_method_4_code, 1, some .boolean, 0, 0, 0, 0, es_55)
-- 56: HarbourTugs$Ship hasJobWith (I)Z
def es_56 : List (Nat × List (Nat × Ent)) := [(9, [(0, e0 (.aload_n 0)), (1, .getfield 9, 4, 7, 0, 0, [10121]), (4, e0 (.bipush (-4))), (6, .if_icmp .eq 18, 24, 0, 0, 0, [])]),
  (15, [(9, e0 (.aload_n 0)), (10, .getfield 43, 4, 8, 0, 0, [10125]), (13, e0 (.iload_n 1)), (14, e0 .iushr)]),
  (21, [(15, e0 (.iconst 1)), (16, e0 .iand), (17, .ifCond .eq 7, 24, 0, 0, 0, []), (20, e0 (.iconst 1))]),
  (100000, [(21, .goto 4, 25, 0, 0, 0, []), (24, e0 (.iconst 0)), (25, e0 .ireturn)])]
def in_56 : MI := (⟨"HarbourTugs$Ship", "hasJobWith", "(I)Z"⟩, prog_6_method_5_code, 2, some .boolean, 0, 0, 0, 0, es_56)
-- 57: HarbourTugs$Ship dropJob ()V
def es_57 : List (Nat × List (Nat × Ent)) := [(7, [(0, e0 (.aload_n 0)), (1, e0 (.bipush (-4))), (3, .putfield 9, 4, 7, 0, 0, [10121]), (6, e0 (.aload_n 0))]),
  (100000, [(7, e0 (.iconst 0)), (8, .putfield 43, 4, 8, 0, 0, [10125]), (11, e0 .return_)])]
def in_57 : MI := (⟨"HarbourTugs$Ship", "dropJob", "()V"⟩, prog_6_method_6_code, 1, none, 0, 0, 0, 0, es_57)
-- 58: HarbourTugs$Ship lastHour ()I
def es_58 : List (Nat × List (Nat × Ent)) := [(8, [(0, e0 (.aload_n 0)), (1, .getfield 9, 4, 7, 0, 0, [10121]), (4, e0 (.aload_n 0)), (5, .getfield 24, 4, 3, 0, 0, [10112])]),
  (100000, [(8, e0 .iadd), (9, e0 (.iconst 1)), (10, e0 .isub), (11, e0 .ireturn)])]
def in_58 : MI := (⟨"HarbourTugs$Ship", "lastHour", "()I"⟩, prog_6_method_7_code, 1, some .int, 0, 0, 0, 0, es_58)
-- 59: HarbourTugs$Ship isInTime (I)Z
def es_59 : List (Nat × List (Nat × Ent)) := [(8, [(0, e0 (.iload_n 1)), (1, e0 (.aload_n 0)), (2, .getfield 21, 4, 2, 0, 0, [10109]), (5, .if_icmp .lt 18, 23, 0, 0, 0, [])]),
  (14, [(8, e0 (.iload_n 1)), (9, e0 (.aload_n 0)), (10, .getfield 24, 4, 3, 0, 0, [10112]), (13, e0 .iadd)]),
  (23, [(14, e0 (.bipush 48)), (16, .if_icmp .gt 7, 23, 0, 0, 0, []), (19, e0 (.iconst 1)), (20, .goto 4, 24, 0, 0, 0, [])]),
  (100000, [(23, e0 (.iconst 0)), (24, e0 .ireturn)])]
def in_59 : MI := (⟨"HarbourTugs$Ship", "isInTime", "(I)Z"⟩, prog_6_method_8_code, 2, some .boolean, 0, 0, 0, 0, es_59)
-- 60: HarbourTugs$Ship hoursFrom (I)J
def es_60 : List (Nat × List (Nat × Ent)) := [(8, [(0, e0 (.aload_n 0)), (1, .getfield 24, 4, 3, 0, 0, [10112]), (4, .invokestatic 46, 112, 1, 1, 0, [20184, 10001, 20186, 20185]), (7, e0 (.iload_n 1))]),
  (100000, [(8, e0 .lshl), (9, e0 .lreturn)])]
def in_60 : MI := (⟨"HarbourTugs$Ship", "hoursFrom", "(I)J"⟩, prog_6_method_9_code, 2, some .long, 1, 0, 0, 20, es_60)
-- 61: HarbourTugs$Ship jobHours ()J
def es_61 : List (Nat × List (Nat × Ent)) := [(8, [(0, e0 (.aload_n 0)), (1, .invokevirtual 50, 55, 0, 42, 0, [20222, 10005, 20084, 20082, 20083]), (4, .ifCond .eq 14, 18, 0, 0, 0, []), (7, e0 (.aload_n 0))]),
  (18, [(8, e0 (.aload_n 0)), (9, .getfield 9, 4, 7, 0, 0, [10121]), (12, .invokevirtual 54, 60, 1, 42, 0, [20223, 10005, 20183, 20181, 20182]), (15, .goto 4, 19, 0, 0, 0, [])]),
  (100000, [(18, e0 (.lconst 0)), (19, e0 .lreturn)])]
def in_61 : MI := (⟨"HarbourTugs$Ship", "jobHours", "()J"⟩, prog_6_method_10_code, 1, some .long, 2, 0, 0, 41, es_61)
-- 62: HarbourTugs$Ship waited ()I
def es_62 : List (Nat × List (Nat × Ent)) := [(8, [(0, e0 (.aload_n 0)), (1, .getfield 27, 4, 4, 0, 0, [10114]), (4, e0 (.aload_n 0)), (5, .invokevirtual 50, 55, 0, 42, 0, [20222, 10005, 20084, 20082, 20083])]),
  (18, [(8, .ifCond .eq 10, 18, 0, 0, 0, []), (11, e0 (.aload_n 0)), (12, .getfield 9, 4, 7, 0, 0, [10121]), (15, .goto 5, 20, 0, 0, 0, [])]),
  (25, [(18, e0 (.bipush 60)), (20, e0 (.aload_n 0)), (21, .getfield 21, 4, 2, 0, 0, [10109]), (24, e0 .isub)]),
  (100000, [(25, e0 .imul), (26, e0 .ireturn)])]
def in_62 : MI := (⟨"HarbourTugs$Ship", "waited", "()I"⟩, prog_6_method_11_code, 1, some .int, 1, 0, 0, 20, es_62)
-- 63: HarbourTugs$Tug <init> ()V
def es_63 : List (Nat × List (Nat × Ent)) := [(7, [(0, e0 (.aload_n 0)), (1, .invokespecial 3, 0, 0, 6, 0, [10051, 10019, 10020]), (4, e0 (.aload_n 0)), (5, e0 (.bipush 48))]),
  (100000, [(7, .putfield 9, 5, 7, 0, 0, [10069]), (10, e0 .return_)])]
def in_63 : MI := (⟨"HarbourTugs$Tug", "<init>", "()V"⟩, prog_7_method_1_code, 1, none, 1, 0, 0, 20, es_63)
-- 64: HarbourTugs$Tug come (IIIIIII)V
def es_64 : List (Nat × List (Nat × Ent)) := [(10, [(0, e0 (.aload_n 0)), (1, e0 (.iload_n 1)), (2, .putfield 15, 5, 0, 0, 0, [10052]), (5, e0 (.aload_n 0)), (6, e0 (.iload_n 2)), (7, .putfield 18, 5, 1, 0, 0, [10055])]),
  (21, [(10, e0 (.aload_n 0)), (11, e0 (.iload_n 3)), (12, .putfield 21, 5, 2, 0, 0, [10058]), (15, e0 (.aload_n 0)), (16, e0 (.iload 4)), (18, .putfield 24, 5, 3, 0, 0, [10061])]),
  (33, [(21, e0 (.aload_n 0)), (22, e0 (.iload 5)), (24, .putfield 27, 5, 4, 0, 0, [10062]), (27, e0 (.aload_n 0)), (28, e0 (.iload 6)), (30, .putfield 30, 5, 5, 0, 0, [10064])]),
  (45, [(33, e0 (.aload_n 0)), (34, e0 (.iload 7)), (36, .putfield 33, 5, 6, 0, 0, [10066]), (39, e0 (.aload_n 0)), (40, e0 (.bipush 48)), (42, .putfield 9, 5, 7, 0, 0, [10069])]),
  (55, [(45, e0 (.aload_n 0)), (46, e0 (.lconst 0)), (47, .putfield 36, 5, 8, 1, 0, [10072]), (50, e0 (.aload_n 0)), (51, e0 (.lconst 0)), (52, .putfield 40, 5, 9, 1, 0, [10075])]),
  (100000, [(55, e0 .return_)])]
def in_64 : MI := (⟨"HarbourTugs$Tug", "come", "(IIIIIII)V"⟩, prog_7_method_2_code, 8, none, 0, 0, 0, 0, es_64)
-- 65: HarbourTugs$Tug copyFrom (LHarbourTugs$Tug;)V
def es_65 : List (Nat × List (Nat × Ent)) := [(10, [(0, e0 (.aload_n 0)), (1, e0 (.aload_n 1)), (2, .getfield 15, 5, 0, 0, 0, [10052]), (5, e0 (.aload_n 1)), (6, .getfield 18, 5, 1, 0, 0, [10055]), (9, e0 (.aload_n 1))]),
  (22, [(10, .getfield 21, 5, 2, 0, 0, [10058]), (13, e0 (.aload_n 1)), (14, .getfield 24, 5, 3, 0, 0, [10061]), (17, e0 (.aload_n 1)), (18, .getfield 27, 5, 4, 0, 0, [10062]), (21, e0 (.aload_n 1))]),
  (34, [(22, .getfield 30, 5, 5, 0, 0, [10064]), (25, e0 (.aload_n 1)), (26, .getfield 33, 5, 6, 0, 0, [10066]), (29, .invokevirtual 43, 64, 7, 52, 0, [30115, 10004, 20101, 20099, 20100]), (32, e0 (.aload_n 0)), (33, e0 (.aload_n 1))]),
  (48, [(34, .getfield 9, 5, 7, 0, 0, [10069]), (37, .putfield 9, 5, 7, 0, 0, [10069]), (40, e0 (.aload_n 0)), (41, e0 (.aload_n 1)), (42, .getfield 36, 5, 8, 1, 0, [10072]), (45, .putfield 36, 5, 8, 1, 0, [10072])]),
  (100000, [(48, e0 (.aload_n 0)), (49, e0 (.aload_n 1)), (50, .getfield 40, 5, 9, 1, 0, [10075]), (53, .putfield 40, 5, 9, 1, 0, [10075]), (56, e0 .return_)])]
def in_65 : MI := (⟨"HarbourTugs$Tug", "copyFrom", "(LHarbourTugs$Tug;)V"⟩, prog_7_method_3_code, 2, none, 1, 0, 0, 27, es_65)
-- 66: HarbourTugs$Tug isBroken (I)Z
def es_66 : List (Nat × List (Nat × Ent)) := [(8, [(0, e0 (.aload_n 0)), (1, .getfield 9, 5, 7, 0, 0, [10069]), (4, e0 (.iload_n 1)), (5, .if_icmp .gt 7, 12, 0, 0, 0, [])]),
  (100000, [(8, e0 (.iconst 1)), (9, .goto 4, 13, 0, 0, 0, []), (12, e0 (.iconst 0)), (13, e0 .ireturn)])]
def in_66 : MI := (⟨"HarbourTugs$Tug", "isBroken", "(I)Z"⟩, prog_7_method_4_code, 2, some .boolean, 0, 0, 0, 0, es_66)
-- 67: HarbourTugs$Tug makeWhole ()Z
def es_67 : List (Nat × List (Nat × Ent)) := [(9, [(0, e0 (.aload_n 0)), (1, .getfield 9, 5, 7, 0, 0, [10069]), (4, e0 (.bipush 48)), (6, .if_icmp .eq 7, 13, 0, 0, 0, [])]),
  (15, [(9, e0 (.iconst 1)), (10, .goto 4, 14, 0, 0, 0, []), (13, e0 (.iconst 0)), (14, e0 (.istore_n 1))]),
  (22, [(15, e0 (.aload_n 0)), (16, e0 (.bipush 48)), (18, .putfield 9, 5, 7, 0, 0, [10069]), (21, e0 (.iload_n 1))]),
  (100000, [(22, e0 .ireturn)])]
def in_67 : MI := (⟨"HarbourTugs$Tug", "makeWhole", "()Z"⟩, prog_7_method_5_code, 2, some .boolean, 0, 0, 0, 0, es_67)
-- 68: HarbourTugs$Tug isFree (J)Z
def es_68 : List (Nat × List (Nat × Ent)) := [(8, [(0, e0 (.aload_n 0)), (1, .getfield 36, 5, 8, 1, 0, [10072]), (4, e0 (.aload_n 0)), (5, .getfield 40, 5, 9, 1, 0, [10075])]),
  (12, [(8, e0 .lor), (9, e0 (.lload_n 1)), (10, e0 .land), (11, e0 (.lconst 0))]),
  (20, [(12, e0 .lcmp), (13, .ifCond .ne 7, 20, 0, 0, 0, []), (16, e0 (.iconst 1)), (17, .goto 4, 21, 0, 0, 0, [])]),
  (100000, [(20, e0 (.iconst 0)), (21, e0 .ireturn)])]
def in_68 : MI := (⟨"HarbourTugs$Tug", "isFree", "(J)Z"⟩, prog_7_method_6_code, 3, some .boolean, 0, 0, 0, 0, es_68)
-- 69: HarbourTugs$Tug fuelBehind (I)I
def es_69 : List (Nat × List (Nat × Ent)) := [(7, [(0, e0 (.aload_n 0)), (1, .getfield 24, 5, 3, 0, 0, [10061]), (4, e0 (.istore_n 2)), (5, e0 (.iconst 0)), (6, e0 (.istore_n 3))]),
  (15, [(7, e0 (.iload_n 3)), (8, e0 (.iload_n 1)), (9, .if_icmp .gt 26, 35, 0, 0, 0, []), (12, e0 (.iload_n 3)), (13, e0 (.bipush 48))]),
  (22, [(15, .if_icmp .ge 20, 35, 0, 0, 0, []), (18, e0 (.aload_n 0)), (19, e0 (.iload_n 2)), (20, e0 (.iload_n 3)), (21, e0 (.aload_n 0))]),
  (35, [(22, .getfield 36, 5, 8, 1, 0, [10072]), (25, .invokevirtual 47, 71, 3, 52, 0, [20147, 10004, 20150, 20149, 2]), (28, e0 (.istore_n 2)), (29, e0 (.iinc 3 1)), (32, .goto (-25), 7, 0, 0, 0, [])]),
  (100000, [(35, e0 (.iload_n 2)), (36, e0 .ireturn)])]
def in_69 : MI := (⟨"HarbourTugs$Tug", "fuelBehind", "(I)I"⟩, prog_7_method_7_code, 4, some .int, 1, 0, 0, 25, es_69)
-- 70: HarbourTugs$Tug fuelLasts (J)Z
def es_70 : List (Nat × List (Nat × Ent)) := [(12, [(0, e0 (.lload_n 1)), (1, .invokestatic 51, 192, 1, 0, 0, [30006, 10010, 30008, 30007]), (4, e0 (.aload_n 0)), (5, .getfield 24, 5, 3, 0, 0, [10061]), (8, .if_icmp .gt 5, 13, 0, 0, 0, []), (11, e0 (.iconst 1))]),
  (21, [(12, e0 .ireturn), (13, e0 (.aload_n 0)), (14, .getfield 24, 5, 3, 0, 0, [10061]), (17, e0 (.istore_n 3)), (18, e0 (.iconst 0)), (19, e0 (.istore 4))]),
  (32, [(21, e0 (.iload 4)), (23, e0 (.bipush 48)), (25, .if_icmp .ge 24, 49, 0, 0, 0, []), (28, e0 (.aload_n 0)), (29, e0 (.iload_n 3)), (30, e0 (.iload 4))]),
  (42, [(32, e0 (.lload_n 1)), (33, .invokevirtual 47, 71, 3, 52, 0, [20147, 10004, 20150, 20149, 2]), (36, e0 (.istore_n 3)), (37, e0 (.iload_n 3)), (38, .ifCond .ge 5, 43, 0, 0, 0, []), (41, e0 (.iconst 0))]),
  (100000, [(42, e0 .ireturn), (43, e0 (.iinc 4 1)), (46, .goto (-25), 21, 0, 0, 0, []), (49, e0 (.iconst 1)), (50, e0 .ireturn)])]
def in_70 : MI := (⟨"HarbourTugs$Tug", "fuelLasts", "(J)Z"⟩, prog_7_method_8_code, 5, some .boolean, 1, 0, 0, 25, es_70)
-- 71: HarbourTugs$Tug fuelAfter (IIJ)I
def es_71 : List (Nat × List (Nat × Ent)) := [(6, [(0, e0 (.iload_n 1)), (1, e0 (.lload_n 3)), (2, e0 (.iload_n 2)), (3, e0 .lushr), (4, e0 (.lconst 1)), (5, e0 .land)]),
  (15, [(6, e0 .l2i), (7, e0 .isub), (8, e0 (.istore 5)), (10, e0 (.aload_n 0)), (11, .getfield 40, 5, 9, 1, 0, [10075]), (14, e0 (.iload_n 2))]),
  (23, [(15, e0 .lushr), (16, e0 (.lconst 1)), (17, e0 .land), (18, e0 (.lconst 0)), (19, e0 .lcmp), (20, .ifCond .ne 6, 26, 0, 0, 0, [])]),
  (32, [(23, e0 (.iload 5)), (25, e0 .ireturn), (26, e0 (.iload 5)), (28, e0 (.bipush 12)), (30, e0 .iadd), (31, e0 (.aload_n 0))]),
  (47, [(32, .getfield 27, 5, 4, 0, 0, [10062]), (35, .if_icmp .le 10, 45, 0, 0, 0, []), (38, e0 (.aload_n 0)), (39, .getfield 27, 5, 4, 0, 0, [10062]), (42, .goto 8, 50, 0, 0, 0, []), (45, e0 (.iload 5))]),
  (100000, [(47, e0 (.bipush 12)), (49, e0 .iadd), (50, e0 .ireturn)])]
def in_71 : MI := (⟨"HarbourTugs$Tug", "fuelAfter", "(IIJ)I"⟩, prog_7_method_9_code, 6, some .int, 0, 0, 0, 0, es_71)
-- 72: HarbourTugs$Tug crewRests (JI)Z
def es_72 : List (Nat × List (Nat × Ent)) := [(12, [(0, e0 (.lload_n 1)), (1, .invokestatic 51, 192, 1, 0, 0, [30006, 10010, 30008, 30007]), (4, e0 (.aload_n 0)), (5, .getfield 30, 5, 5, 0, 0, [10064]), (8, .if_icmp .gt 5, 13, 0, 0, 0, []), (11, e0 (.iconst 1))]),
  (21, [(12, e0 .ireturn), (13, e0 (.aload_n 0)), (14, .getfield 30, 5, 5, 0, 0, [10064]), (17, e0 (.iload_n 3)), (18, e0 .iadd), (19, e0 (.istore 4))]),
  (31, [(21, e0 (.iconst 0)), (22, e0 (.istore 5)), (24, e0 (.iload 5)), (26, e0 (.iload 4)), (28, e0 .iadd), (29, e0 (.bipush 48))]),
  (43, [(31, .if_icmp .gt 31, 62, 0, 0, 0, []), (34, e0 (.lload_n 1)), (35, e0 (.iload 5)), (37, e0 .lushr), (38, e0 (.iload 4)), (40, .invokestatic 57, 112, 1, 1, 0, [30016, 10001, 20186, 20185])]),
  (55, [(43, e0 .land), (44, .invokestatic 51, 192, 1, 0, 0, [30006, 10010, 30008, 30007]), (47, e0 (.aload_n 0)), (48, .getfield 30, 5, 5, 0, 0, [10064]), (51, .if_icmp .le 5, 56, 0, 0, 0, []), (54, e0 (.iconst 0))]),
  (100000, [(55, e0 .ireturn), (56, e0 (.iinc 5 1)), (59, .goto (-35), 24, 0, 0, 0, []), (62, e0 (.iconst 1)), (63, e0 .ireturn)])]
def in_72 : MI := (⟨"HarbourTugs$Tug", "crewRests", "(JI)Z"⟩, prog_7_method_10_code, 6, some .boolean, 1, 0, 0, 21, es_72)
-- 73: HarbourTugs <init> ()V
def es_73 : List (Nat × List (Nat × Ent)) := [(16, [(0, e0 (.aload_n 0)), (1, .invokespecial 1, 0, 0, 6, 0, [10018, 10019, 10020]), (4, e0 (.aload_n 0)), (5, .new 7, 0, 0, 2, 0, [10021, 10022, 10002]), (8, e0 .dup), (9, .invokespecial 9, 0, 0, 4, 0, [10023, 10002, 10025, 10024]), (12, .putfield 10, 6, 0, 2, 0, [20033]), (15, e0 (.aload_n 0))]),
  (34, [(16, .new 16, 1, 0, 16, 0, [10037, 10038, 10003]), (19, e0 .dup), (20, e0 (.aload_n 0)), (21, .getfield 10, 6, 0, 2, 0, [20033]), (24, .invokespecial 18, 4, 1, 4, 0, [10039, 10003, 10041, 10040]), (27, .putfield 21, 6, 1, 3, 0, [20034]), (30, e0 (.aload_n 0)), (31, .new 25, 2, 0, 7, 0, [10214, 10215, 10006])]),
  (50, [(34, e0 .dup), (35, e0 (.aload_n 0)), (36, .getfield 10, 6, 0, 2, 0, [20033]), (39, .invokespecial 27, 40, 1, 4, 0, [10216, 10006, 10218, 10217]), (42, .putfield 28, 6, 2, 4, 0, [20035]), (45, e0 (.aload_n 0)), (46, .new 32, 3, 0, 5, 0, [20009, 20010, 10007]), (49, e0 .dup)]),
  (66, [(50, .invokespecial 34, 48, 0, 5, 0, [20011, 10007, 20013, 20012]), (53, .putfield 35, 6, 3, 5, 0, [20036]), (56, e0 (.aload_n 0)), (57, e0 (.iconst 3)), (58, .anewarray 16, 3000, 0, 0, 0, [10037, 20032]), (61, .putfield 39, 6, 4, 3005, 0, [20037]), (64, e0 (.aload_n 0)), (65, e0 (.iconst 0))]),
  (80, [(66, .putfield 43, 6, 5, 0, 0, [20038]), (69, e0 (.iconst 0)), (70, e0 (.istore_n 1)), (71, e0 (.iload_n 1)), (72, e0 (.aload_n 0)), (73, .getfield 39, 6, 4, 3005, 0, [20037]), (76, e0 .arraylength), (77, .if_icmp .ge 26, 103, 0, 0, 0, [])]),
  (96, [(80, e0 (.aload_n 0)), (81, .getfield 39, 6, 4, 3005, 0, [20037]), (84, e0 (.iload_n 1)), (85, .new 16, 1, 0, 16, 0, [10037, 10038, 10003]), (88, e0 .dup), (89, e0 (.aload_n 0)), (90, .getfield 10, 6, 0, 2, 0, [20033]), (93, .invokespecial 18, 4, 1, 4, 0, [10039, 10003, 10041, 10040])]),
  (100000, [(96, e0 .aastore), (97, e0 (.iinc 1 1)), (100, .goto (-29), 71, 0, 0, 0, []), (103, e0 .return_)])]
def in_73 : MI := (⟨"HarbourTugs", "<init>", "()V"⟩, prog_1_method_1_code, 2, none, 4, 108, 1199, 84, es_73)
-- 74: HarbourTugs tide (II)I
def es_74 : List (Nat × List (Nat × Ent)) := [(11, [(0, e0 (.iload_n 1)), (1, e0 (.iconst 0)), (2, e0 (.bipush 11)), (4, .invokestatic 47, 105, 3, 0, 0, [20056, 10001, 20058, 20057]), (7, .ifCond .eq 13, 20, 0, 0, 0, []), (10, e0 (.iload_n 2))]),
  (22, [(11, e0 (.iconst 0)), (12, e0 (.bipush 9)), (14, .invokestatic 47, 105, 3, 0, 0, [20056, 10001, 20058, 20057]), (17, .ifCond .ne 5, 22, 0, 0, 0, []), (20, e0 (.iconst (-1))), (21, e0 .ireturn)]),
  (32, [(22, e0 (.aload_n 0)), (23, .getfield 21, 6, 1, 3, 0, [20034]), (26, .getfield 51, 1, 1, 1014, 0, [10150]), (29, e0 (.iload_n 1)), (30, e0 .iaload), (31, e0 (.istore_n 3))]),
  (42, [(32, e0 (.aload_n 0)), (33, .getfield 21, 6, 1, 3, 0, [20034]), (36, .getfield 51, 1, 1, 1014, 0, [10150]), (39, e0 (.iload_n 1)), (40, e0 (.iload_n 2)), (41, e0 .iastore)]),
  (100000, [(42, e0 (.iload_n 3)), (43, e0 .ireturn)])]
def in_74 : MI := (⟨"HarbourTugs", "tide", "(II)I"⟩, prog_1_method_2_code, 4, some .int, 1, 0, 0, 22, es_74)
-- 75: HarbourTugs wind (II)I
def es_75 : List (Nat × List (Nat × Ent)) := [(9, [(0, e0 (.iload_n 1)), (1, .invokestatic 55, 106, 1, 0, 0, [20063, 10001, 20065, 20064]), (4, .ifCond .eq 13, 17, 0, 0, 0, []), (7, e0 (.iload_n 2)), (8, e0 (.iconst 0))]),
  (19, [(9, e0 (.bipush 9)), (11, .invokestatic 47, 105, 3, 0, 0, [20056, 10001, 20058, 20057]), (14, .ifCond .ne 5, 19, 0, 0, 0, []), (17, e0 (.iconst (-1))), (18, e0 .ireturn)]),
  (28, [(19, e0 (.aload_n 0)), (20, .getfield 21, 6, 1, 3, 0, [20034]), (23, .getfield 59, 1, 2, 1050, 0, [10152]), (26, e0 (.iload_n 1)), (27, e0 .iaload)]),
  (37, [(28, e0 (.istore_n 3)), (29, e0 (.aload_n 0)), (30, .getfield 21, 6, 1, 3, 0, [20034]), (33, .getfield 59, 1, 2, 1050, 0, [10152]), (36, e0 (.iload_n 1))]),
  (100000, [(37, e0 (.iload_n 2)), (38, e0 .iastore), (39, e0 (.iload_n 3)), (40, e0 .ireturn)])]
def in_75 : MI := (⟨"HarbourTugs", "wind", "(II)I"⟩, prog_1_method_3_code, 4, some .int, 2, 0, 0, 42, es_75)
-- 76: HarbourTugs rule (II)I
def es_76 : List (Nat × List (Nat × Ent)) := [(13, [(0, e0 (.iconst (-1))), (1, e0 (.istore_n 3)), (2, e0 (.iload_n 1)), (3, .ifCond .ne 32, 35, 0, 0, 0, []), (6, e0 (.iload_n 2)), (7, e0 (.iconst 0)), (8, e0 (.bipush 6)), (10, .invokestatic 47, 105, 3, 0, 0, [20056, 10001, 20058, 20057])]),
  (29, [(13, .ifCond .eq 22, 35, 0, 0, 0, []), (16, e0 (.aload_n 0)), (17, .getfield 21, 6, 1, 3, 0, [20034]), (20, .getfield 62, 1, 5, 0, 0, [10160]), (23, e0 (.istore_n 3)), (24, e0 (.aload_n 0)), (25, .getfield 21, 6, 1, 3, 0, [20034]), (28, e0 (.iload_n 2))]),
  (43, [(29, .putfield 62, 1, 5, 0, 0, [10160]), (32, .goto 67, 99, 0, 0, 0, []), (35, e0 (.iload_n 1)), (36, e0 (.iconst 1)), (37, .if_icmp .ne 31, 68, 0, 0, 0, []), (40, e0 (.iload_n 2)), (41, e0 (.iconst 0)), (42, e0 (.iconst 1))]),
  (61, [(43, .invokestatic 47, 105, 3, 0, 0, [20056, 10001, 20058, 20057]), (46, .ifCond .eq 22, 68, 0, 0, 0, []), (49, e0 (.aload_n 0)), (50, .getfield 21, 6, 1, 3, 0, [20034]), (53, .getfield 65, 1, 6, 0, 0, [10162]), (56, e0 (.istore_n 3)), (57, e0 (.aload_n 0)), (58, .getfield 21, 6, 1, 3, 0, [20034])]),
  (75, [(61, e0 (.iload_n 2)), (62, .putfield 65, 1, 6, 0, 0, [10162]), (65, .goto 34, 99, 0, 0, 0, []), (68, e0 (.iload_n 1)), (69, e0 (.iconst 2)), (70, .if_icmp .ne 29, 99, 0, 0, 0, []), (73, e0 (.iload_n 2)), (74, e0 (.iconst 1))]),
  (92, [(75, e0 (.bipush 30)), (77, .invokestatic 47, 105, 3, 0, 0, [20056, 10001, 20058, 20057]), (80, .ifCond .eq 19, 99, 0, 0, 0, []), (83, e0 (.aload_n 0)), (84, .getfield 21, 6, 1, 3, 0, [20034]), (87, .getfield 68, 1, 7, 0, 0, [10164]), (90, e0 (.istore_n 3)), (91, e0 (.aload_n 0))]),
  (100000, [(92, .getfield 21, 6, 1, 3, 0, [20034]), (95, e0 (.iload_n 2)), (96, .putfield 68, 1, 7, 0, 0, [10164]), (99, e0 (.iload_n 3)), (100, e0 .ireturn)])]
def in_76 : MI := (⟨"HarbourTugs", "rule", "(II)I"⟩, prog_1_method_4_code, 4, some .int, 1, 0, 0, 22, es_76)
-- 77: HarbourTugs berth (III)I
def es_77 : List (Nat × List (Nat × Ent)) := [(13, [(0, e0 (.iload_n 1)), (1, .invokestatic 71, 107, 1, 0, 0, [20074, 10001, 20076, 20075]), (4, .ifCond .eq 30, 34, 0, 0, 0, []), (7, e0 (.iload_n 2)), (8, e0 (.iconst 0)), (9, e0 (.iconst 1)), (10, .invokestatic 47, 105, 3, 0, 0, [20056, 10001, 20058, 20057])]),
  (27, [(13, .ifCond .eq 21, 34, 0, 0, 0, []), (16, e0 (.iload_n 3)), (17, e0 (.iconst 0)), (18, e0 (.iload_n 2)), (19, .ifCond .ne 8, 27, 0, 0, 0, []), (22, e0 (.bipush 60)), (24, .goto 4, 28, 0, 0, 0, [])]),
  (40, [(27, e0 (.iconst 1)), (28, .invokestatic 47, 105, 3, 0, 0, [20056, 10001, 20058, 20057]), (31, .ifCond .ne 5, 36, 0, 0, 0, []), (34, e0 (.iconst (-1))), (35, e0 .ireturn), (36, e0 (.aload_n 0)), (37, .getfield 21, 6, 1, 3, 0, [20034])]),
  (54, [(40, e0 (.iload_n 1)), (41, .invokevirtual 74, 7, 1, 12, 0, [20077, 10003, 20080, 20078, 20079]), (44, .ifCond .eq 6, 50, 0, 0, 0, []), (47, e0 (.bipush (-2))), (49, e0 .ireturn), (50, e0 (.iload_n 2)), (51, .ifCond .ne 13, 64, 0, 0, 0, [])]),
  (71, [(54, e0 (.aload_n 0)), (55, .getfield 10, 6, 0, 2, 0, [20033]), (58, .getfield 77, 0, 0, 1008, 0, [10028]), (61, .goto 10, 71, 0, 0, 0, []), (64, e0 (.aload_n 0)), (65, .getfield 10, 6, 0, 2, 0, [20033]), (68, .getfield 80, 0, 1, 1008, 0, [10030])]),
  (82, [(71, e0 (.astore 4)), (73, e0 (.aload 4)), (75, e0 (.iload_n 1)), (76, e0 .iaload), (77, e0 (.istore 5)), (79, e0 (.aload 4)), (81, e0 (.iload_n 1))]),
  (100000, [(82, e0 (.iload_n 3)), (83, e0 .iastore), (84, e0 (.iload 5)), (86, e0 .ireturn)])]
def in_77 : MI := (⟨"HarbourTugs", "berth", "(III)I"⟩, prog_1_method_5_code, 6, some .int, 2, 0, 0, 45, es_77)
-- 78: HarbourTugs way (II)I
def es_78 : List (Nat × List (Nat × Ent)) := [(11, [(0, e0 (.iload_n 1)), (1, .invokestatic 71, 107, 1, 0, 0, [20074, 10001, 20076, 20075]), (4, .ifCond .eq 10, 14, 0, 0, 0, []), (7, e0 (.iload_n 2)), (8, .invokestatic 71, 107, 1, 0, 0, [20074, 10001, 20076, 20075])]),
  (20, [(11, .ifCond .ne 5, 16, 0, 0, 0, []), (14, e0 (.iconst (-1))), (15, e0 .ireturn), (16, e0 (.aload_n 0)), (17, .getfield 10, 6, 0, 2, 0, [20033])]),
  (29, [(20, e0 (.iload_n 1)), (21, e0 (.iload_n 2)), (22, e0 (.aload_n 0)), (23, .getfield 21, 6, 1, 3, 0, [20034]), (26, .getfield 68, 1, 7, 0, 0, [10164])]),
  (100000, [(29, .invokevirtual 83, 1, 3, 2, 0, [20089, 10002, 20092, 20090, 20091]), (32, e0 .ireturn)])]
def in_78 : MI := (⟨"HarbourTugs", "way", "(II)I"⟩, prog_1_method_6_code, 3, some .int, 2, 0, 0, 44, es_78)
-- 79: HarbourTugs tug (IIIIIII)I
def es_79 : List (Nat × List (Nat × Ent)) := [(16, [(0, e0 (.iload_n 1)), (1, e0 (.iconst 0)), (2, e0 (.iconst 1)), (3, .invokestatic 47, 105, 3, 0, 0, [20056, 10001, 20058, 20057]), (6, .ifCond .eq 63, 69, 0, 0, 0, []), (9, e0 (.iload_n 2)), (10, e0 (.iconst 1)), (11, e0 (.bipush 60)), (13, .invokestatic 47, 105, 3, 0, 0, [20056, 10001, 20058, 20057])]),
  (33, [(16, .ifCond .eq 53, 69, 0, 0, 0, []), (19, e0 (.iload_n 3)), (20, e0 (.iconst 0)), (21, e0 (.iconst 1)), (22, .invokestatic 47, 105, 3, 0, 0, [20056, 10001, 20058, 20057]), (25, .ifCond .eq 44, 69, 0, 0, 0, []), (28, e0 (.iload 5)), (30, e0 (.iconst 1)), (31, e0 (.bipush 48))]),
  (53, [(33, .invokestatic 47, 105, 3, 0, 0, [20056, 10001, 20058, 20057]), (36, .ifCond .eq 33, 69, 0, 0, 0, []), (39, e0 (.iload 4)), (41, e0 (.iconst 0)), (42, e0 (.iload 5)), (44, .invokestatic 47, 105, 3, 0, 0, [20056, 10001, 20058, 20057]), (47, .ifCond .eq 22, 69, 0, 0, 0, []), (50, e0 (.iload 6)), (52, e0 (.iconst 1))]),
  (72, [(53, e0 (.bipush 12)), (55, .invokestatic 47, 105, 3, 0, 0, [20056, 10001, 20058, 20057]), (58, .ifCond .eq 11, 69, 0, 0, 0, []), (61, e0 (.iload 7)), (63, .invokestatic 71, 107, 1, 0, 0, [20074, 10001, 20076, 20075]), (66, .ifCond .ne 5, 71, 0, 0, 0, []), (69, e0 (.iconst (-1))), (70, e0 .ireturn), (71, e0 (.aload_n 0))]),
  (92, [(72, .getfield 21, 6, 1, 3, 0, [20034]), (75, .getfield 87, 1, 9, 0, 0, [10168]), (78, e0 (.istore 8)), (80, e0 (.iload 8)), (82, e0 (.iconst 0)), (83, e0 (.iconst 5)), (84, .invokestatic 47, 105, 3, 0, 0, [20056, 10001, 20058, 20057]), (87, .ifCond .ne 6, 93, 0, 0, 0, []), (90, e0 (.bipush (-3)))]),
  (106, [(92, e0 .ireturn), (93, e0 (.aload_n 0)), (94, .getfield 21, 6, 1, 3, 0, [20034]), (97, .getfield 90, 1, 3, 5008, 0, [10155]), (100, e0 (.iload 8)), (102, e0 .aaload), (103, e0 (.iload_n 1)), (104, e0 (.iload_n 2)), (105, e0 (.iload_n 3))]),
  (124, [(106, e0 (.iload 4)), (108, e0 (.iload 5)), (110, e0 (.iload 6)), (112, e0 (.iload 7)), (114, .invokevirtual 94, 64, 7, 52, 0, [20098, 10004, 20101, 20099, 20100]), (117, e0 (.aload_n 0)), (118, .getfield 21, 6, 1, 3, 0, [20034]), (121, e0 (.iload 8)), (123, e0 (.iconst 1))]),
  (100000, [(124, e0 .iadd), (125, .putfield 87, 1, 9, 0, 0, [10168]), (128, e0 (.iload 8)), (130, e0 .ireturn)])]
def in_79 : MI := (⟨"HarbourTugs", "tug", "(IIIIIII)I"⟩, prog_1_method_7_code, 9, some .int, 1, 0, 0, 27, es_79)
-- 80: HarbourTugs ship (IIIIIII)I
def es_80 : List (Nat × List (Nat × Ent)) := [(14, [(0, e0 (.iload_n 1)), (1, e0 (.iconst 1)), (2, e0 (.bipush 50)), (4, .invokestatic 47, 105, 3, 0, 0, [20056, 10001, 20058, 20057]), (7, .ifCond .eq 57, 64, 0, 0, 0, []), (10, e0 (.iload_n 2)), (11, e0 (.iconst 0)), (12, e0 (.bipush 9))]),
  (31, [(14, .invokestatic 47, 105, 3, 0, 0, [20056, 10001, 20058, 20057]), (17, .ifCond .eq 47, 64, 0, 0, 0, []), (20, e0 (.iload_n 3)), (21, .invokestatic 55, 106, 1, 0, 0, [20063, 10001, 20065, 20064]), (24, .ifCond .eq 40, 64, 0, 0, 0, []), (27, e0 (.iload 4)), (29, e0 (.iconst 1)), (30, e0 (.iconst 4))]),
  (50, [(31, .invokestatic 47, 105, 3, 0, 0, [20056, 10001, 20058, 20057]), (34, .ifCond .eq 30, 64, 0, 0, 0, []), (37, e0 (.iload 5)), (39, e0 (.iconst 1)), (40, e0 (.bipush 20)), (42, .invokestatic 47, 105, 3, 0, 0, [20056, 10001, 20058, 20057]), (45, .ifCond .eq 19, 64, 0, 0, 0, []), (48, e0 (.iload 6))]),
  (67, [(50, .invokestatic 71, 107, 1, 0, 0, [20074, 10001, 20076, 20075]), (53, .ifCond .eq 11, 64, 0, 0, 0, []), (56, e0 (.iload 7)), (58, .invokestatic 71, 107, 1, 0, 0, [20074, 10001, 20076, 20075]), (61, .ifCond .ne 5, 66, 0, 0, 0, []), (64, e0 (.iconst (-1))), (65, e0 .ireturn), (66, e0 (.aload_n 0))]),
  (86, [(67, .getfield 21, 6, 1, 3, 0, [20034]), (70, .getfield 100, 1, 10, 0, 0, [10170]), (73, e0 (.istore 8)), (75, e0 (.iload 8)), (77, e0 (.iconst 0)), (78, e0 (.bipush 7)), (80, .invokestatic 47, 105, 3, 0, 0, [20056, 10001, 20058, 20057]), (83, .ifCond .ne 6, 89, 0, 0, 0, [])]),
  (100, [(86, e0 (.bipush (-3))), (88, e0 .ireturn), (89, e0 (.aload_n 0)), (90, .getfield 21, 6, 1, 3, 0, [20034]), (93, .getfield 103, 1, 4, 4010, 0, [10158]), (96, e0 (.iload 8)), (98, e0 .aaload), (99, e0 (.iload_n 1))]),
  (114, [(100, e0 (.iload_n 2)), (101, e0 (.iload_n 3)), (102, e0 (.iload 4)), (104, e0 (.iload 5)), (106, e0 (.iload 6)), (108, e0 (.iload 7)), (110, .invokevirtual 107, 53, 7, 42, 0, [20106, 10005, 20109, 20107, 20108]), (113, e0 (.aload_n 0))]),
  (100000, [(114, .getfield 21, 6, 1, 3, 0, [20034]), (117, e0 (.iload 8)), (119, e0 (.iconst 1)), (120, e0 .iadd), (121, .putfield 100, 1, 10, 0, 0, [10170]), (124, e0 (.iload 8)), (126, e0 .ireturn)])]
def in_80 : MI := (⟨"HarbourTugs", "ship", "(IIIIIII)I"⟩, prog_1_method_8_code, 9, some .int, 2, 0, 0, 47, es_80)
-- 81: HarbourTugs needs (II)I
def es_81 : List (Nat × List (Nat × Ent)) := [(9, [(0, e0 (.aload_n 0)), (1, e0 (.iload_n 1)), (2, .invokevirtual 110, 109, 1, 62, 0, [20118, 10001, 20121, 20120, 0]), (5, .ifCond .eq 10, 15, 0, 0, 0, []), (8, e0 (.iload_n 2))]),
  (18, [(9, .invokestatic 55, 106, 1, 0, 0, [20063, 10001, 20065, 20064]), (12, .ifCond .ne 5, 17, 0, 0, 0, []), (15, e0 (.iconst (-1))), (16, e0 .ireturn), (17, e0 (.aload_n 0))]),
  (29, [(18, .getfield 21, 6, 1, 3, 0, [20034]), (21, e0 (.aload_n 0)), (22, .getfield 21, 6, 1, 3, 0, [20034]), (25, .getfield 103, 1, 4, 4010, 0, [10158]), (28, e0 (.iload_n 1))]),
  (100000, [(29, e0 .aaload), (30, e0 (.iload_n 2)), (31, .invokevirtual 113, 10, 2, 12, 0, [20122, 10003, 20125, 20123, 20124]), (34, e0 .ireturn)])]
def in_81 : MI := (⟨"HarbourTugs", "needs", "(II)I"⟩, prog_1_method_9_code, 3, some .int, 2, 0, 0, 44, es_81)
-- 82: HarbourTugs bunker (II)I
def es_82 : List (Nat × List (Nat × Ent)) := [(15, [(0, e0 (.aload_n 0)), (1, e0 (.iload_n 1)), (2, .invokevirtual 117, 108, 1, 62, 0, [20131, 10001, 20134, 20133, 1]), (5, .ifCond .eq 10, 15, 0, 0, 0, []), (8, e0 (.iload_n 2)), (9, .invokestatic 55, 106, 1, 0, 0, [20063, 10001, 20065, 20064]), (12, .ifCond .ne 5, 17, 0, 0, 0, [])]),
  (26, [(15, e0 (.iconst (-1))), (16, e0 .ireturn), (17, e0 (.aload_n 0)), (18, .getfield 21, 6, 1, 3, 0, [20034]), (21, .getfield 90, 1, 3, 5008, 0, [10155]), (24, e0 (.iload_n 1)), (25, e0 .aaload)]),
  (35, [(26, e0 (.astore_n 3)), (27, e0 (.lconst 1)), (28, e0 (.iload_n 2)), (29, e0 .lshl), (30, e0 (.lstore 4)), (32, e0 (.aload_n 3)), (33, e0 (.lload 4))]),
  (50, [(35, .invokevirtual 120, 68, 1, 52, 0, [20135, 10004, 20138, 20136, 20137]), (38, .ifCond .eq 26, 64, 0, 0, 0, []), (41, e0 (.aload_n 3)), (42, e0 (.iload_n 2)), (43, .invokevirtual 124, 66, 1, 52, 0, [20139, 10004, 20142, 20140, 20141]), (46, .ifCond .ne 18, 64, 0, 0, 0, []), (49, e0 (.aload_n 0))]),
  (64, [(50, .getfield 21, 6, 1, 3, 0, [20034]), (53, .getfield 127, 1, 8, 1, 0, [10166]), (56, e0 (.lload 4)), (58, e0 .land), (59, e0 (.lconst 0)), (60, e0 .lcmp), (61, .ifCond .eq 6, 67, 0, 0, 0, [])]),
  (75, [(64, e0 (.bipush (-2))), (66, e0 .ireturn), (67, e0 (.aload_n 3)), (68, e0 .dup), (69, .getfield 131, 5, 9, 1, 0, [10076]), (72, e0 (.lload 4)), (74, e0 .lor)]),
  (100000, [(75, .putfield 131, 5, 9, 1, 0, [10076]), (78, e0 (.aload_n 3)), (79, e0 (.bipush 47)), (81, .invokevirtual 134, 69, 1, 52, 0, [20143, 10004, 20146, 20144, 20145]), (84, e0 .ireturn)])]
def in_82 : MI := (⟨"HarbourTugs", "bunker", "(II)I"⟩, prog_1_method_10_code, 6, some .int, 2, 0, 0, 48, es_82)
-- 83: HarbourTugs fuel (II)I
def es_83 : List (Nat × List (Nat × Ent)) := [(9, [(0, e0 (.aload_n 0)), (1, e0 (.iload_n 1)), (2, .invokevirtual 117, 108, 1, 62, 0, [20131, 10001, 20134, 20133, 1]), (5, .ifCond .eq 13, 18, 0, 0, 0, []), (8, e0 (.iload_n 2))]),
  (19, [(9, e0 (.iconst (-1))), (10, e0 (.bipush 47)), (12, .invokestatic 47, 105, 3, 0, 0, [20056, 10001, 20058, 20057]), (15, .ifCond .ne 5, 20, 0, 0, 0, []), (18, e0 (.iconst (-1)))]),
  (28, [(19, e0 .ireturn), (20, e0 (.aload_n 0)), (21, .getfield 21, 6, 1, 3, 0, [20034]), (24, .getfield 90, 1, 3, 5008, 0, [10155]), (27, e0 (.iload_n 1))]),
  (100000, [(28, e0 .aaload), (29, e0 (.iload_n 2)), (30, .invokevirtual 134, 69, 1, 52, 0, [20143, 10004, 20146, 20144, 20145]), (33, e0 .ireturn)])]
def in_83 : MI := (⟨"HarbourTugs", "fuel", "(II)I"⟩, prog_1_method_11_code, 3, some .int, 2, 0, 0, 48, es_83)
-- 84: HarbourTugs may (III)I
def es_84 : List (Nat × List (Nat × Ent)) := [(12, [(0, e0 (.aload_n 0)), (1, e0 (.iload_n 1)), (2, .invokevirtual 110, 109, 1, 62, 0, [20118, 10001, 20121, 20120, 0]), (5, .ifCond .eq 18, 23, 0, 0, 0, []), (8, e0 (.iload_n 2)), (9, .invokestatic 55, 106, 1, 0, 0, [20063, 10001, 20065, 20064])]),
  (24, [(12, .ifCond .eq 11, 23, 0, 0, 0, []), (15, e0 (.aload_n 0)), (16, e0 (.iload_n 3)), (17, .invokevirtual 138, 110, 1, 62, 0, [20159, 10001, 20162, 20161, 3]), (20, .ifCond .ne 5, 25, 0, 0, 0, []), (23, e0 (.iconst (-1)))]),
  (34, [(24, e0 .ireturn), (25, e0 (.aload_n 0)), (26, .getfield 21, 6, 1, 3, 0, [20034]), (29, .getfield 103, 1, 4, 4010, 0, [10158]), (32, e0 (.iload_n 1)), (33, e0 .aaload)]),
  (49, [(34, e0 (.astore 4)), (36, e0 (.aload 4)), (38, .invokevirtual 141, 55, 0, 42, 0, [20163, 10005, 20084, 20082, 20083]), (41, .ifCond .eq 8, 49, 0, 0, 0, []), (44, e0 (.bipush (-2))), (46, .goto 14, 60, 0, 0, 0, [])]),
  (60, [(49, e0 (.aload_n 0)), (50, .getfield 21, 6, 1, 3, 0, [20034]), (53, e0 (.aload 4)), (55, e0 (.iload_n 2)), (56, e0 (.iload_n 3)), (57, .invokevirtual 145, 21, 3, 12, 0, [20164, 10003, 20167, 20165, 20166])]),
  (100000, [(60, e0 .ireturn)])]
def in_84 : MI := (⟨"HarbourTugs", "may", "(III)I"⟩, prog_1_method_12_code, 5, some .int, 7, 0, 0, 176, es_84)
-- 85: HarbourTugs lay (III)I
def es_85 : List (Nat × List (Nat × Ent)) := [(15, [(0, e0 (.aload_n 0)), (1, e0 (.iload_n 1)), (2, .invokevirtual 110, 109, 1, 62, 0, [20118, 10001, 20121, 20120, 0]), (5, .ifCond .eq 18, 23, 0, 0, 0, []), (8, e0 (.iload_n 2)), (9, .invokestatic 55, 106, 1, 0, 0, [20063, 10001, 20065, 20064]), (12, .ifCond .eq 11, 23, 0, 0, 0, [])]),
  (26, [(15, e0 (.aload_n 0)), (16, e0 (.iload_n 3)), (17, .invokevirtual 138, 110, 1, 62, 0, [20159, 10001, 20162, 20161, 3]), (20, .ifCond .ne 5, 25, 0, 0, 0, []), (23, e0 (.iconst (-1))), (24, e0 .ireturn), (25, e0 (.aload_n 0))]),
  (41, [(26, .getfield 21, 6, 1, 3, 0, [20034]), (29, .getfield 103, 1, 4, 4010, 0, [10158]), (32, e0 (.iload_n 1)), (33, e0 .aaload), (34, e0 (.astore 4)), (36, e0 (.aload 4)), (38, .invokevirtual 141, 55, 0, 42, 0, [20163, 10005, 20084, 20082, 20083])]),
  (55, [(41, .ifCond .ne 17, 58, 0, 0, 0, []), (44, e0 (.aload_n 0)), (45, .getfield 21, 6, 1, 3, 0, [20034]), (48, e0 (.aload 4)), (50, e0 (.iload_n 2)), (51, e0 (.iload_n 3)), (52, .invokevirtual 145, 21, 3, 12, 0, [20164, 10003, 20167, 20165, 20166])]),
  (68, [(55, .ifCond .eq 6, 61, 0, 0, 0, []), (58, e0 (.bipush (-2))), (60, e0 .ireturn), (61, e0 (.aload_n 0)), (62, .getfield 21, 6, 1, 3, 0, [20034]), (65, e0 (.aload 4)), (67, e0 (.iload_n 2))]),
  (100000, [(68, e0 (.iload_n 3)), (69, .invokevirtual 149, 29, 3, 12, 0, [30042, 10003, 30045, 30043, 30044]), (72, e0 (.iconst 0)), (73, e0 .ireturn)])]
def in_85 : MI := (⟨"HarbourTugs", "lay", "(III)I"⟩, prog_1_method_13_code, 5, some .int, 7, 0, 0, 176, es_85)
-- 86: HarbourTugs off (I)I
def es_86 : List (Nat × List (Nat × Ent)) := [(10, [(0, e0 (.aload_n 0)), (1, e0 (.iload_n 1)), (2, .invokevirtual 110, 109, 1, 62, 0, [20118, 10001, 20121, 20120, 0]), (5, .ifCond .ne 5, 10, 0, 0, 0, []), (8, e0 (.iconst (-1))), (9, e0 .ireturn)]),
  (20, [(10, e0 (.aload_n 0)), (11, .getfield 21, 6, 1, 3, 0, [20034]), (14, .getfield 103, 1, 4, 4010, 0, [10158]), (17, e0 (.iload_n 1)), (18, e0 .aaload), (19, e0 (.astore_n 2))]),
  (31, [(20, e0 (.aload_n 2)), (21, .invokevirtual 141, 55, 0, 42, 0, [20163, 10005, 20084, 20082, 20083]), (24, .ifCond .ne 6, 30, 0, 0, 0, []), (27, e0 (.bipush (-2))), (29, e0 .ireturn), (30, e0 (.aload_n 2))]),
  (43, [(31, .getfield 153, 4, 7, 0, 0, [10123]), (34, e0 (.istore_n 3)), (35, e0 (.aload_n 0)), (36, .getfield 21, 6, 1, 3, 0, [20034]), (39, e0 (.aload_n 2)), (40, .invokevirtual 156, 31, 1, 12, 0, [30050, 10003, 30053, 30051, 30052])]),
  (100000, [(43, e0 (.iload_n 3)), (44, e0 .ireturn)])]
def in_86 : MI := (⟨"HarbourTugs", "off", "(I)I"⟩, prog_1_method_14_code, 4, some .int, 5, 0, 0, 109, es_86)
-- 87: HarbourTugs best (II)I
def es_87 : List (Nat × List (Nat × Ent)) := [(11, [(0, e0 (.aload_n 0)), (1, e0 (.iload_n 1)), (2, .invokevirtual 110, 109, 1, 62, 0, [20118, 10001, 20121, 20120, 0]), (5, .ifCond .eq 12, 17, 0, 0, 0, []), (8, e0 (.iload_n 2)), (9, e0 (.iconst 0)), (10, e0 (.iconst 1))]),
  (26, [(11, .invokestatic 47, 105, 3, 0, 0, [20056, 10001, 20058, 20057]), (14, .ifCond .ne 5, 19, 0, 0, 0, []), (17, e0 (.iconst (-1))), (18, e0 .ireturn), (19, e0 (.aload_n 0)), (20, .getfield 21, 6, 1, 3, 0, [20034]), (23, .getfield 103, 1, 4, 4010, 0, [10158])]),
  (38, [(26, e0 (.iload_n 1)), (27, e0 .aaload), (28, e0 (.astore_n 3)), (29, e0 (.aload_n 3)), (30, .invokevirtual 141, 55, 0, 42, 0, [20163, 10005, 20084, 20082, 20083]), (33, .ifCond .eq 6, 39, 0, 0, 0, []), (36, e0 (.bipush (-2)))]),
  (51, [(38, e0 .ireturn), (39, e0 (.aload_n 0)), (40, .getfield 21, 6, 1, 3, 0, [20034]), (43, e0 (.aload_n 3)), (44, .invokevirtual 160, 25, 1, 12, 0, [30066, 10003, 30069, 30067, 30068]), (47, e0 (.istore 4)), (49, e0 (.iload 4))]),
  (66, [(51, e0 (.bipush (-4))), (53, .if_icmp .eq 7, 60, 0, 0, 0, []), (56, e0 (.iload_n 2)), (57, .ifCond .ne 8, 65, 0, 0, 0, []), (60, e0 (.iload 4)), (62, .goto 10, 72, 0, 0, 0, []), (65, e0 (.aload_n 0))]),
  (100000, [(66, .getfield 21, 6, 1, 3, 0, [20034]), (69, .getfield 164, 1, 15, 0, 0, [10180]), (72, e0 .ireturn)])]
def in_87 : MI := (⟨"HarbourTugs", "best", "(II)I"⟩, prog_1_method_15_code, 5, some .int, 5, 0, 0, 135, es_87)
-- 88: HarbourTugs job (II)I
def es_88 : List (Nat × List (Nat × Ent)) := [(10, [(0, e0 (.aload_n 0)), (1, e0 (.iload_n 1)), (2, .invokevirtual 110, 109, 1, 62, 0, [20118, 10001, 20121, 20120, 0]), (5, .ifCond .eq 12, 17, 0, 0, 0, []), (8, e0 (.iload_n 2)), (9, e0 (.iconst 0))]),
  (20, [(10, e0 (.iconst 1)), (11, .invokestatic 47, 105, 3, 0, 0, [20056, 10001, 20058, 20057]), (14, .ifCond .ne 5, 19, 0, 0, 0, []), (17, e0 (.iconst (-1))), (18, e0 .ireturn), (19, e0 (.aload_n 0))]),
  (30, [(20, .getfield 21, 6, 1, 3, 0, [20034]), (23, .getfield 103, 1, 4, 4010, 0, [10158]), (26, e0 (.iload_n 1)), (27, e0 .aaload), (28, e0 (.astore_n 3)), (29, e0 (.aload_n 3))]),
  (43, [(30, .invokevirtual 141, 55, 0, 42, 0, [20163, 10005, 20084, 20082, 20083]), (33, .ifCond .ne 6, 39, 0, 0, 0, []), (36, e0 (.bipush (-4))), (38, e0 .ireturn), (39, e0 (.iload_n 2)), (40, .ifCond .ne 10, 50, 0, 0, 0, [])]),
  (100000, [(43, e0 (.aload_n 3)), (44, .getfield 153, 4, 7, 0, 0, [10123]), (47, .goto 7, 54, 0, 0, 0, []), (50, e0 (.aload_n 3)), (51, .getfield 167, 4, 8, 0, 0, [10127]), (54, e0 .ireturn)])]
def in_88 : MI := (⟨"HarbourTugs", "job", "(II)I"⟩, prog_1_method_16_code, 4, some .int, 2, 0, 0, 43, es_88)
-- 89: HarbourTugs order (II)I
def es_89 : List (Nat × List (Nat × Ent)) := [(10, [(0, e0 (.aload_n 0)), (1, e0 (.iload_n 1)), (2, .invokevirtual 170, 111, 1, 62, 0, [30096, 10001, 30099, 30098, 20]), (5, .ifCond .ne 5, 10, 0, 0, 0, []), (8, e0 (.iconst (-1))), (9, e0 .ireturn)]),
  (22, [(10, e0 (.aload_n 0)), (11, .getfield 28, 6, 2, 4, 0, [20035]), (14, e0 (.aload_n 0)), (15, .getfield 21, 6, 1, 3, 0, [20034]), (18, e0 (.iload_n 1)), (19, .invokevirtual 173, 41, 2, 22, 0, [30100, 10006, 30103, 30101, 30102])]),
  (34, [(22, e0 (.iload_n 2)), (23, e0 (.iconst (-1))), (24, .if_icmp .ne 11, 35, 0, 0, 0, []), (27, e0 (.aload_n 0)), (28, .getfield 28, 6, 2, 4, 0, [20035]), (31, .getfield 177, 2, 5, 0, 0, [10231])]),
  (40, [(34, e0 .ireturn), (35, e0 (.iload_n 2)), (36, e0 (.iconst 0)), (37, e0 (.iload_n 1)), (38, e0 (.iconst 1)), (39, e0 .isub)]),
  (54, [(40, .invokestatic 47, 105, 3, 0, 0, [20056, 10001, 20058, 20057]), (43, .ifCond .eq 15, 58, 0, 0, 0, []), (46, e0 (.aload_n 0)), (47, .getfield 28, 6, 2, 4, 0, [20035]), (50, .getfield 180, 2, 3, 1006, 0, [10227]), (53, e0 (.iload_n 2))]),
  (100000, [(54, e0 .iaload), (55, .goto 5, 60, 0, 0, 0, []), (58, e0 (.bipush (-4))), (60, e0 .ireturn)])]
def in_89 : MI := (⟨"HarbourTugs", "order", "(II)I"⟩, prog_1_method_17_code, 3, some .int, 7, 0, 0, 186, es_89)
-- 90: HarbourTugs layOrder (I)I
def es_90 : List (Nat × List (Nat × Ent)) := [(9, [(0, e0 (.aload_n 0)), (1, e0 (.iload_n 1)), (2, .invokevirtual 170, 111, 1, 62, 0, [30096, 10001, 30099, 30098, 20]), (5, .ifCond .ne 5, 10, 0, 0, 0, []), (8, e0 (.iconst (-1)))]),
  (18, [(9, e0 .ireturn), (10, e0 (.aload_n 0)), (11, .getfield 28, 6, 2, 4, 0, [20035]), (14, e0 (.aload_n 0)), (15, .getfield 21, 6, 1, 3, 0, [20034])]),
  (29, [(18, e0 (.iload_n 1)), (19, .invokevirtual 173, 41, 2, 22, 0, [30100, 10006, 30103, 30101, 30102]), (22, e0 (.aload_n 0)), (23, .getfield 21, 6, 1, 3, 0, [20034]), (26, .invokevirtual 183, 34, 0, 12, 0, [30154, 10003, 30127, 30125, 30126])]),
  (40, [(29, e0 (.aload_n 0)), (30, .getfield 21, 6, 1, 3, 0, [20034]), (33, e0 (.aload_n 0)), (34, .getfield 28, 6, 2, 4, 0, [20035]), (37, .getfield 180, 2, 3, 1006, 0, [10227])]),
  (100000, [(40, e0 (.iload_n 1)), (41, .invokevirtual 186, 35, 2, 12, 0, [30155, 10003, 30131, 30129, 30130]), (44, e0 .ireturn)])]
def in_90 : MI := (⟨"HarbourTugs", "layOrder", "(I)I"⟩, prog_1_method_18_code, 2, some .int, 7, 0, 0, 186, es_90)
-- 91: HarbourTugs mended (II)I
def es_91 : List (Nat × List (Nat × Ent)) := [(10, [(0, e0 (.aload_n 0)), (1, e0 (.iload_n 1)), (2, .invokevirtual 170, 111, 1, 62, 0, [30096, 10001, 30099, 30098, 20]), (5, .ifCond .eq 12, 17, 0, 0, 0, []), (8, e0 (.iload_n 2)), (9, e0 (.iconst 0))]),
  (20, [(10, e0 (.iconst 3)), (11, .invokestatic 47, 105, 3, 0, 0, [20056, 10001, 20058, 20057]), (14, .ifCond .ne 5, 19, 0, 0, 0, []), (17, e0 (.iconst (-1))), (18, e0 .ireturn), (19, e0 (.aload_n 0))]),
  (32, [(20, .getfield 28, 6, 2, 4, 0, [20035]), (23, e0 (.aload_n 0)), (24, .getfield 21, 6, 1, 3, 0, [20034]), (27, e0 (.iload_n 1)), (28, .invokevirtual 190, 45, 2, 22, 0, [30160, 10006, 30163, 30161, 30162]), (31, e0 (.iload_n 2))]),
  (69, [(32, .tableswitch 55 0 2 #[28, 36, 47], 87, 0, 28, 0, [60, 68, 79]), (60, e0 (.aload_n 0)), (61, .getfield 28, 6, 2, 4, 0, [20035]), (64, .getfield 193, 2, 4, 0, 0, [10229]), (67, e0 .ireturn), (68, e0 (.aload_n 0))]),
  (83, [(69, .getfield 28, 6, 2, 4, 0, [20035]), (72, .getfield 196, 2, 6, 0, 0, [10233]), (75, .invokestatic 199, 193, 1, 0, 0, [30178, 10011, 30084, 30083]), (78, e0 .ireturn), (79, e0 (.aload_n 0)), (80, .getfield 28, 6, 2, 4, 0, [20035])]),
  (100000, [(83, .getfield 177, 2, 5, 0, 0, [10231]), (86, e0 .ireturn), (87, e0 (.aload_n 0)), (88, .getfield 28, 6, 2, 4, 0, [20035]), (91, .getfield 196, 2, 6, 0, 0, [10233]), (94, e0 .ireturn)])]
def in_91 : MI := (⟨"HarbourTugs", "mended", "(II)I"⟩, prog_1_method_19_code, 3, some .int, 7, 0, 0, 186, es_91)
-- 92: HarbourTugs layMended (I)I
def es_92 : List (Nat × List (Nat × Ent)) := [(10, [(0, e0 (.aload_n 0)), (1, e0 (.iload_n 1)), (2, .invokevirtual 170, 111, 1, 62, 0, [30096, 10001, 30099, 30098, 20]), (5, .ifCond .ne 5, 10, 0, 0, 0, []), (8, e0 (.iconst (-1))), (9, e0 .ireturn)]),
  (22, [(10, e0 (.aload_n 0)), (11, .getfield 28, 6, 2, 4, 0, [20035]), (14, e0 (.aload_n 0)), (15, .getfield 21, 6, 1, 3, 0, [20034]), (18, e0 (.iload_n 1)), (19, .invokevirtual 190, 45, 2, 22, 0, [30160, 10006, 30163, 30161, 30162])]),
  (36, [(22, e0 (.aload_n 0)), (23, .getfield 21, 6, 1, 3, 0, [20034]), (26, e0 (.aload_n 0)), (27, .getfield 28, 6, 2, 4, 0, [20035]), (30, .getfield 196, 2, 6, 0, 0, [10233]), (33, .invokevirtual 204, 32, 1, 12, 0, [30183, 10003, 30171, 30169, 30170])]),
  (48, [(36, e0 (.aload_n 0)), (37, .getfield 21, 6, 1, 3, 0, [20034]), (40, e0 (.aload_n 0)), (41, .getfield 28, 6, 2, 4, 0, [20035]), (44, .getfield 208, 2, 1, 1006, 0, [10224]), (47, e0 (.iload_n 1))]),
  (100000, [(48, .invokevirtual 186, 35, 2, 12, 0, [30155, 10003, 30131, 30129, 30130]), (51, e0 .ireturn)])]
def in_92 : MI := (⟨"HarbourTugs", "layMended", "(I)I"⟩, prog_1_method_20_code, 2, some .int, 7, 0, 0, 186, es_92)
-- 93: HarbourTugs breaks (II)I
def es_93 : List (Nat × List (Nat × Ent)) := [(9, [(0, e0 (.aload_n 0)), (1, e0 (.iload_n 1)), (2, .invokevirtual 117, 108, 1, 62, 0, [20131, 10001, 20134, 20133, 1]), (5, .ifCond .eq 10, 15, 0, 0, 0, []), (8, e0 (.iload_n 2))]),
  (18, [(9, .invokestatic 55, 106, 1, 0, 0, [20063, 10001, 20065, 20064]), (12, .ifCond .ne 5, 17, 0, 0, 0, []), (15, e0 (.iconst (-1))), (16, e0 .ireturn), (17, e0 (.aload_n 0))]),
  (27, [(18, .getfield 21, 6, 1, 3, 0, [20034]), (21, .getfield 90, 1, 3, 5008, 0, [10155]), (24, e0 (.iload_n 1)), (25, e0 .aaload), (26, e0 (.iload_n 2))]),
  (39, [(27, .invokevirtual 124, 66, 1, 52, 0, [20139, 10004, 20142, 20140, 20141]), (30, .ifCond .eq 8, 38, 0, 0, 0, []), (33, e0 (.bipush (-2))), (35, .goto 12, 47, 0, 0, 0, []), (38, e0 (.aload_n 0))]),
  (100000, [(39, .getfield 21, 6, 1, 3, 0, [20034]), (42, e0 (.iload_n 1)), (43, e0 (.iload_n 2)), (44, .invokevirtual 211, 37, 2, 12, 0, [30188, 10003, 30191, 30189, 30190]), (47, e0 .ireturn)])]
def in_93 : MI := (⟨"HarbourTugs", "breaks", "(II)I"⟩, prog_1_method_21_code, 3, some .int, 6, 0, 0, 138, es_93)
-- 94: HarbourTugs mend (I)I
def es_94 : List (Nat × List (Nat × Ent)) := [(9, [(0, e0 (.aload_n 0)), (1, e0 (.iload_n 1)), (2, .invokevirtual 117, 108, 1, 62, 0, [20131, 10001, 20134, 20133, 1]), (5, .ifCond .ne 5, 10, 0, 0, 0, []), (8, e0 (.iconst (-1)))]),
  (18, [(9, e0 .ireturn), (10, e0 (.aload_n 0)), (11, .getfield 21, 6, 1, 3, 0, [20034]), (14, .getfield 90, 1, 3, 5008, 0, [10155]), (17, e0 (.iload_n 1))]),
  (29, [(18, e0 .aaload), (19, .invokevirtual 215, 67, 0, 52, 0, [30204, 10004, 30207, 30205, 30206]), (22, .ifCond .eq 7, 29, 0, 0, 0, []), (25, e0 (.iconst 1)), (26, .goto 4, 30, 0, 0, 0, [])]),
  (100000, [(29, e0 (.iconst 0)), (30, e0 .ireturn)])]
def in_94 : MI := (⟨"HarbourTugs", "mend", "(I)I"⟩, prog_1_method_22_code, 2, some .int, 2, 0, 0, 43, es_94)
-- 95: HarbourTugs storm (II)I
def es_95 : List (Nat × List (Nat × Ent)) := [(11, [(0, e0 (.iload_n 1)), (1, .invokestatic 55, 106, 1, 0, 0, [20063, 10001, 20065, 20064]), (4, .ifCond .eq 15, 19, 0, 0, 0, []), (7, e0 (.iload_n 2)), (8, .invokestatic 55, 106, 1, 0, 0, [20063, 10001, 20065, 20064])]),
  (20, [(11, .ifCond .eq 8, 19, 0, 0, 0, []), (14, e0 (.iload_n 1)), (15, e0 (.iload_n 2)), (16, .if_icmp .le 5, 21, 0, 0, 0, []), (19, e0 (.iconst (-1)))]),
  (27, [(20, e0 .ireturn), (21, e0 (.aload_n 0)), (22, .getfield 21, 6, 1, 3, 0, [20034]), (25, e0 (.iload_n 1)), (26, e0 (.iload_n 2))]),
  (100000, [(27, .invokevirtual 218, 39, 2, 12, 0, [30212, 10003, 30215, 30213, 30214]), (30, e0 .ireturn)])]
def in_95 : MI := (⟨"HarbourTugs", "storm", "(II)I"⟩, prog_1_method_23_code, 3, some .int, 6, 0, 0, 140, es_95)
-- 96: HarbourTugs calm ()I
def es_96 : List (Nat × List (Nat × Ent)) := [(10, [(0, e0 (.aload_n 0)), (1, .getfield 21, 6, 1, 3, 0, [20034]), (4, .getfield 127, 1, 8, 1, 0, [10166]), (7, .invokestatic 221, 192, 1, 0, 0, [30220, 10010, 30008, 30007])]),
  (16, [(10, e0 (.istore_n 1)), (11, e0 (.aload_n 0)), (12, .getfield 21, 6, 1, 3, 0, [20034]), (15, e0 (.lconst 0))]),
  (100000, [(16, .putfield 127, 1, 8, 1, 0, [10166]), (19, e0 (.iload_n 1)), (20, e0 .ireturn)])]
def in_96 : MI := (⟨"HarbourTugs", "calm", "()I"⟩, prog_1_method_24_code, 2, some .int, 1, 0, 0, 21, es_96)
-- 97: HarbourTugs priceRule (IIII)I
def es_97 : List (Nat × List (Nat × Ent)) := [(12, [(0, e0 (.iload_n 1)), (1, e0 (.iconst 0)), (2, e0 (.bipush 6)), (4, .invokestatic 47, 105, 3, 0, 0, [20056, 10001, 20058, 20057]), (7, .ifCond .eq 23, 30, 0, 0, 0, []), (10, e0 (.iload_n 2)), (11, e0 (.iconst 0))]),
  (27, [(12, e0 (.sipush 400)), (15, .invokestatic 47, 105, 3, 0, 0, [20056, 10001, 20058, 20057]), (18, .ifCond .eq 12, 30, 0, 0, 0, []), (21, e0 (.iload_n 3)), (22, e0 (.iconst 0)), (23, e0 (.iconst 1)), (24, .invokestatic 47, 105, 3, 0, 0, [20056, 10001, 20058, 20057])]),
  (41, [(27, .ifCond .ne 5, 32, 0, 0, 0, []), (30, e0 (.iconst (-1))), (31, e0 .ireturn), (32, e0 (.iload_n 3)), (33, .ifCond .ne 19, 52, 0, 0, 0, []), (36, e0 (.iload 4)), (38, e0 (.sipush (-1000)))]),
  (59, [(41, .ldc 226, 0, 0, 0, 100000, [30225]), (43, .invokestatic 47, 105, 3, 0, 0, [20056, 10001, 20058, 20057]), (46, .ifCond .ne 21, 67, 0, 0, 0, []), (49, .goto 16, 65, 0, 0, 0, []), (52, e0 (.iload 4)), (54, e0 (.bipush (-100))), (56, e0 (.sipush 1000))]),
  (72, [(59, .invokestatic 47, 105, 3, 0, 0, [20056, 10001, 20058, 20057]), (62, .ifCond .ne 5, 67, 0, 0, 0, []), (65, e0 (.iconst (-1))), (66, e0 .ireturn), (67, e0 (.aload_n 0)), (68, .getfield 35, 6, 3, 5, 0, [20036]), (71, e0 (.iload_n 1))]),
  (86, [(72, e0 (.iload_n 2)), (73, e0 (.iload_n 3)), (74, e0 (.iload 4)), (76, .invokevirtual 227, 49, 4, 32, 0, [30226, 10007, 30229, 30227, 30228]), (79, .ifCond .eq 13, 92, 0, 0, 0, []), (82, e0 (.aload_n 0)), (83, .getfield 35, 6, 3, 5, 0, [20036])]),
  (100000, [(86, .getfield 231, 3, 4, 0, 0, [20020]), (89, .goto 5, 94, 0, 0, 0, []), (92, e0 (.bipush (-3))), (94, e0 .ireturn)])]
def in_97 : MI := (⟨"HarbourTugs", "priceRule", "(IIII)I"⟩, prog_1_method_25_code, 5, some .int, 2, 0, 0, 46, es_97)
-- 98: HarbourTugs price (I)J
def es_98 : List (Nat × List (Nat × Ent)) := [(11, [(0, e0 (.aload_n 0)), (1, e0 (.iload_n 1)), (2, .invokevirtual 110, 109, 1, 62, 0, [20118, 10001, 20121, 20120, 0]), (5, .ifCond .ne 7, 12, 0, 0, 0, []), (8, .ldc2_w 234, 0, 0, 0, (-1000000001), [30235])]),
  (20, [(11, e0 .lreturn), (12, e0 (.aload_n 0)), (13, .getfield 21, 6, 1, 3, 0, [20034]), (16, .getfield 103, 1, 4, 4010, 0, [10158]), (19, e0 (.iload_n 1))]),
  (29, [(20, e0 .aaload), (21, e0 (.astore_n 2)), (22, e0 (.aload_n 2)), (23, .invokevirtual 141, 55, 0, 42, 0, [20163, 10005, 20084, 20082, 20083]), (26, .ifCond .eq 18, 44, 0, 0, 0, [])]),
  (38, [(29, e0 (.aload_n 0)), (30, .getfield 35, 6, 3, 5, 0, [20036]), (33, e0 (.aload_n 0)), (34, .getfield 21, 6, 1, 3, 0, [20034]), (37, e0 (.aload_n 2))]),
  (100000, [(38, .invokevirtual 236, 50, 2, 32, 0, [30236, 10007, 30239, 30237, 30238]), (41, .goto 6, 47, 0, 0, 0, []), (44, .ldc2_w 240, 0, 0, 0, (-1000000002), [40007]), (47, e0 .lreturn)])]
def in_98 : MI := (⟨"HarbourTugs", "price", "(I)J"⟩, prog_1_method_26_code, 3, some .long, 4, 0, 0, 92, es_98)
-- 99: HarbourTugs pool (II)I
def es_99 : List (Nat × List (Nat × Ent)) := [(11, [(0, e0 (.iload_n 1)), (1, e0 (.iconst 0)), (2, e0 (.iconst 1)), (3, .invokestatic 47, 105, 3, 0, 0, [20056, 10001, 20058, 20057]), (6, .ifCond .eq 13, 19, 0, 0, 0, []), (9, e0 (.iload_n 2)), (10, e0 (.iconst 0))]),
  (25, [(11, .ldc 242, 0, 0, 0, 1000000, [40012]), (13, .invokestatic 47, 105, 3, 0, 0, [20056, 10001, 20058, 20057]), (16, .ifCond .ne 5, 21, 0, 0, 0, []), (19, e0 (.iconst (-1))), (20, e0 .ireturn), (21, e0 (.aload_n 0)), (22, .getfield 21, 6, 1, 3, 0, [20034])]),
  (38, [(25, e0 (.iconst 1)), (26, .invokevirtual 243, 8, 1, 12, 0, [40013, 10003, 40016, 40014, 40015]), (29, e0 (.lstore_n 3)), (30, e0 (.aload_n 0)), (31, .getfield 21, 6, 1, 3, 0, [20034]), (34, e0 (.iconst 0)), (35, .invokevirtual 243, 8, 1, 12, 0, [40013, 10003, 40016, 40014, 40015])]),
  (49, [(38, e0 (.lload_n 3)), (39, e0 .ladd), (40, e0 (.lstore 5)), (42, e0 (.lload 5)), (44, e0 (.lconst 0)), (45, e0 .lcmp), (46, .ifCond .gt 7, 53, 0, 0, 0, [])]),
  (59, [(49, e0 (.iconst 0)), (50, .goto 11, 61, 0, 0, 0, []), (53, e0 (.iload_n 2)), (54, e0 .i2l), (55, e0 (.lload_n 3)), (56, e0 .lmul), (57, e0 (.lload 5))]),
  (70, [(59, e0 .ldiv), (60, e0 .l2i), (61, e0 (.istore 7)), (63, e0 (.iload_n 1)), (64, e0 (.iconst 1)), (65, .if_icmp .ne 8, 73, 0, 0, 0, []), (68, e0 (.iload 7))]),
  (100000, [(70, .goto 7, 77, 0, 0, 0, []), (73, e0 (.iload_n 2)), (74, e0 (.iload 7)), (76, e0 .isub), (77, e0 .ireturn)])]
def in_99 : MI := (⟨"HarbourTugs", "pool", "(II)I"⟩, prog_1_method_27_code, 8, some .int, 2, 0, 0, 48, es_99)
-- 100: HarbourTugs work (II)J
def es_100 : List (Nat × List (Nat × Ent)) := [(10, [(0, e0 (.aload_n 0)), (1, e0 (.iload_n 1)), (2, .invokevirtual 117, 108, 1, 62, 0, [20131, 10001, 20134, 20133, 1]), (5, .ifCond .eq 12, 17, 0, 0, 0, []), (8, e0 (.iload_n 2)), (9, e0 (.iconst 0))]),
  (22, [(10, e0 (.iconst 1)), (11, .invokestatic 47, 105, 3, 0, 0, [20056, 10001, 20058, 20057]), (14, .ifCond .ne 7, 21, 0, 0, 0, []), (17, .ldc2_w 247, 0, 0, 0, (-1), [40021]), (20, e0 .lreturn), (21, e0 (.iload_n 2))]),
  (34, [(22, .ifCond .ne 18, 40, 0, 0, 0, []), (25, e0 (.aload_n 0)), (26, .getfield 21, 6, 1, 3, 0, [20034]), (29, .getfield 90, 1, 3, 5008, 0, [10155]), (32, e0 (.iload_n 1)), (33, e0 .aaload)]),
  (48, [(34, .getfield 249, 5, 8, 1, 0, [10074]), (37, .goto 15, 52, 0, 0, 0, []), (40, e0 (.aload_n 0)), (41, .getfield 21, 6, 1, 3, 0, [20034]), (44, .getfield 90, 1, 3, 5008, 0, [10155]), (47, e0 (.iload_n 1))]),
  (100000, [(48, e0 .aaload), (49, .getfield 131, 5, 9, 1, 0, [10076]), (52, e0 .lreturn)])]
def in_100 : MI := (⟨"HarbourTugs", "work", "(II)J"⟩, prog_1_method_28_code, 3, some .long, 2, 0, 0, 43, es_100)
-- 101: HarbourTugs about (II)I
def es_101 : List (Nat × List (Nat × Ent)) := [(12, [(0, e0 (.aload_n 0)), (1, e0 (.iload_n 1)), (2, .invokevirtual 117, 108, 1, 62, 0, [20131, 10001, 20134, 20133, 1]), (5, .ifCond .ne 6, 11, 0, 0, 0, []), (8, e0 (.bipush (-100))), (10, e0 .ireturn), (11, e0 (.aload_n 0))]),
  (68, [(12, .getfield 21, 6, 1, 3, 0, [20034]), (15, .getfield 90, 1, 3, 5008, 0, [10155]), (18, e0 (.iload_n 1)), (19, e0 .aaload), (20, e0 (.astore_n 3)), (21, e0 (.iload_n 2)), (22, .tableswitch 104 0 7 #[46, 51, 56, 61, 66, 71, 76, 95], 126, 0, 46, 0, [68, 73, 78, 83, 88, 93, 98, 117])]),
  (79, [(68, e0 (.aload_n 3)), (69, .getfield 252, 5, 0, 0, 0, [10054]), (72, e0 .ireturn), (73, e0 (.aload_n 3)), (74, .getfield 255, 5, 1, 0, 0, [10057]), (77, e0 .ireturn), (78, e0 (.aload_n 3))]),
  (92, [(79, .getfield 258, 5, 2, 0, 0, [10060]), (82, e0 .ireturn), (83, e0 (.aload_n 3)), (84, .getfield 261, 5, 4, 0, 0, [10063]), (87, e0 .ireturn), (88, e0 (.aload_n 3)), (89, .getfield 264, 5, 5, 0, 0, [10065])]),
  (104, [(92, e0 .ireturn), (93, e0 (.aload_n 3)), (94, .getfield 267, 5, 6, 0, 0, [10068]), (97, e0 .ireturn), (98, e0 (.aload_n 3)), (99, .getfield 270, 5, 7, 0, 0, [10070]), (102, e0 (.bipush 48))]),
  (118, [(104, .if_icmp .ne 8, 112, 0, 0, 0, []), (107, e0 (.bipush (-4))), (109, .goto 7, 116, 0, 0, 0, []), (112, e0 (.aload_n 3)), (113, .getfield 270, 5, 7, 0, 0, [10070]), (116, e0 .ireturn), (117, e0 (.aload_n 0))]),
  (100000, [(118, .getfield 21, 6, 1, 3, 0, [20034]), (121, e0 (.iload_n 1)), (122, .invokevirtual 273, 9, 1, 12, 0, [40026, 10003, 40029, 40027, 40028]), (125, e0 .ireturn), (126, e0 (.bipush (-100))), (128, e0 .ireturn)])]
def in_101 : MI := (⟨"HarbourTugs", "about", "(II)I"⟩, prog_1_method_29_code, 4, some .int, 3, 0, 0, 70, es_101)
-- 102: HarbourTugs keep ()I
def es_102 : List (Nat × List (Nat × Ent)) := [(10, [(0, e0 (.aload_n 0)), (1, .getfield 43, 6, 5, 0, 0, [20038]), (4, e0 (.iconst 0)), (5, e0 (.aload_n 0)), (6, .getfield 39, 6, 4, 3005, 0, [20037]), (9, e0 .arraylength)]),
  (21, [(10, e0 (.iconst 1)), (11, e0 .isub), (12, .invokestatic 47, 105, 3, 0, 0, [20056, 10001, 20058, 20057]), (15, .ifCond .ne 6, 21, 0, 0, 0, []), (18, e0 (.bipush (-3))), (20, e0 .ireturn)]),
  (31, [(21, e0 (.aload_n 0)), (22, .getfield 39, 6, 4, 3005, 0, [20037]), (25, e0 (.aload_n 0)), (26, .getfield 43, 6, 5, 0, 0, [20038]), (29, e0 .aaload), (30, e0 (.aload_n 0))]),
  (43, [(31, .getfield 21, 6, 1, 3, 0, [20034]), (34, .invokevirtual 276, 5, 1, 12, 0, [40034, 10003, 30107, 30105, 30106]), (37, e0 (.aload_n 0)), (38, e0 .dup), (39, .getfield 43, 6, 5, 0, 0, [20038]), (42, e0 (.iconst 1))]),
  (100000, [(43, e0 .iadd), (44, .putfield 43, 6, 5, 0, 0, [20038]), (47, e0 (.aload_n 0)), (48, .getfield 43, 6, 5, 0, 0, [20038]), (51, e0 .ireturn)])]
def in_102 : MI := (⟨"HarbourTugs", "keep", "()I"⟩, prog_1_method_30_code, 1, some .int, 4, 0, 0, 90, es_102)
-- 103: HarbourTugs back ()I
def es_103 : List (Nat × List (Nat × Ent)) := [(8, [(0, e0 (.aload_n 0)), (1, .getfield 43, 6, 5, 0, 0, [20038]), (4, e0 (.iconst 1)), (5, e0 .isub), (6, e0 (.istore_n 1)), (7, e0 (.iload_n 1))]),
  (16, [(8, e0 (.iconst 0)), (9, e0 (.aload_n 0)), (10, .getfield 39, 6, 4, 3005, 0, [20037]), (13, e0 .arraylength), (14, e0 (.iconst 1)), (15, e0 .isub)]),
  (29, [(16, .invokestatic 47, 105, 3, 0, 0, [20056, 10001, 20058, 20057]), (19, .ifCond .ne 6, 25, 0, 0, 0, []), (22, e0 (.bipush (-2))), (24, e0 .ireturn), (25, e0 (.aload_n 0)), (26, .getfield 21, 6, 1, 3, 0, [20034])]),
  (39, [(29, e0 (.aload_n 0)), (30, .getfield 39, 6, 4, 3005, 0, [20037]), (33, e0 (.iload_n 1)), (34, e0 .aaload), (35, .invokevirtual 276, 5, 1, 12, 0, [40034, 10003, 30107, 30105, 30106]), (38, e0 (.aload_n 0))]),
  (100000, [(39, e0 (.iload_n 1)), (40, .putfield 43, 6, 5, 0, 0, [20038]), (43, e0 (.aload_n 0)), (44, .getfield 43, 6, 5, 0, 0, [20038]), (47, e0 .ireturn)])]
def in_103 : MI := (⟨"HarbourTugs", "back", "()I"⟩, prog_1_method_31_code, 2, some .int, 4, 0, 0, 90, es_103)
-- 104: HarbourTugs count (I)I
def es_104 : List (Nat × List (Nat × Ent)) := [(65, [(0, e0 (.iload_n 1)), (1, .tableswitch 135 0 9 #[55, 63, 71, 79, 90, 98, 106, 114, 122, 130], 136, 0, 55, 0, [56, 64, 72, 80, 91, 99, 107, 115, 123, 131]), (56, e0 (.aload_n 0)), (57, .getfield 21, 6, 1, 3, 0, [20034]), (60, .getfield 87, 1, 9, 0, 0, [10168]), (63, e0 .ireturn), (64, e0 (.aload_n 0))]),
  (80, [(65, .getfield 21, 6, 1, 3, 0, [20034]), (68, .getfield 100, 1, 10, 0, 0, [10170]), (71, e0 .ireturn), (72, e0 (.aload_n 0)), (73, .getfield 21, 6, 1, 3, 0, [20034]), (76, .invokevirtual 280, 6, 0, 12, 0, [40043, 10003, 40046, 40044, 40045]), (79, e0 .ireturn)]),
  (95, [(80, e0 (.aload_n 0)), (81, .getfield 21, 6, 1, 3, 0, [20034]), (84, .getfield 127, 1, 8, 1, 0, [10166]), (87, .invokestatic 221, 192, 1, 0, 0, [30220, 10010, 30008, 30007]), (90, e0 .ireturn), (91, e0 (.aload_n 0)), (92, .getfield 21, 6, 1, 3, 0, [20034])]),
  (108, [(95, .getfield 284, 1, 11, 0, 0, [10172]), (98, e0 .ireturn), (99, e0 (.aload_n 0)), (100, .getfield 21, 6, 1, 3, 0, [20034]), (103, .getfield 287, 1, 12, 0, 0, [10174]), (106, e0 .ireturn), (107, e0 (.aload_n 0))]),
  (123, [(108, .getfield 21, 6, 1, 3, 0, [20034]), (111, .getfield 290, 1, 13, 0, 0, [10176]), (114, e0 .ireturn), (115, e0 (.aload_n 0)), (116, .getfield 21, 6, 1, 3, 0, [20034]), (119, .getfield 293, 1, 14, 0, 0, [10178]), (122, e0 .ireturn)]),
  (136, [(123, e0 (.aload_n 0)), (124, .getfield 35, 6, 3, 5, 0, [20036]), (127, .getfield 231, 3, 4, 0, 0, [20020]), (130, e0 .ireturn), (131, e0 (.aload_n 0)), (132, .getfield 43, 6, 5, 0, 0, [20038]), (135, e0 .ireturn)]),
  (100000, [(136, e0 (.iconst (-1))), (137, e0 .ireturn)])]
def in_104 : MI := (⟨"HarbourTugs", "count", "(I)I"⟩, prog_1_method_32_code, 2, some .int, 2, 0, 0, 45, es_104)
-- 105: HarbourTugs within (III)Z
def es_105 : List (Nat × List (Nat × Ent)) := [(6, [(0, e0 (.iload_n 0)), (1, e0 (.iload_n 1)), (2, .if_icmp .lt 12, 14, 0, 0, 0, []), (5, e0 (.iload_n 0))]),
  (14, [(6, e0 (.iload_n 2)), (7, .if_icmp .gt 7, 14, 0, 0, 0, []), (10, e0 (.iconst 1)), (11, .goto 4, 15, 0, 0, 0, [])]),
  (100000, [(14, e0 (.iconst 0)), (15, e0 .ireturn)])]
def in_105 : MI := (⟨"HarbourTugs", "within", "(III)Z"⟩, prog_1_method_33_code, 3, some .boolean, 0, 0, 0, 0, es_105)
-- 106: HarbourTugs isHour (I)Z
def es_106 : List (Nat × List (Nat × Ent)) := [(7, [(0, e0 (.iload_n 0)), (1, e0 (.iconst 0)), (2, e0 (.bipush 47)), (4, .invokestatic 47, 105, 3, 0, 0, [20056, 10001, 20058, 20057])]),
  (100000, [(7, e0 .ireturn)])]
def in_106 : MI := (⟨"HarbourTugs", "isHour", "(I)Z"⟩, prog_1_method_34_code, 1, some .boolean, 1, 0, 0, 22, es_106)
-- 107: HarbourTugs isBerth (I)Z
def es_107 : List (Nat × List (Nat × Ent)) := [(7, [(0, e0 (.iload_n 0)), (1, .ifCond .lt 13, 14, 0, 0, 0, []), (4, e0 (.iload_n 0)), (5, e0 (.bipush 6))]),
  (15, [(7, .if_icmp .ge 7, 14, 0, 0, 0, []), (10, e0 (.iconst 1)), (11, .goto 4, 15, 0, 0, 0, []), (14, e0 (.iconst 0))]),
  (100000, [(15, e0 .ireturn)])]
def in_107 : MI := (⟨"HarbourTugs", "isBerth", "(I)Z"⟩, prog_1_method_35_code, 1, some .boolean, 0, 0, 0, 0, es_107)
-- 108: HarbourTugs isTug (I)Z
def es_108 : List (Nat × List (Nat × Ent)) := [(6, [(0, e0 (.iload_n 1)), (1, e0 (.iconst 0)), (2, e0 (.iconst 5)), (3, .invokestatic 47, 105, 3, 0, 0, [20056, 10001, 20058, 20057])]),
  (14, [(6, .ifCond .eq 18, 24, 0, 0, 0, []), (9, e0 (.iload_n 1)), (10, e0 (.aload_n 0)), (11, .getfield 21, 6, 1, 3, 0, [20034])]),
  (24, [(14, .getfield 87, 1, 9, 0, 0, [10168]), (17, .if_icmp .ge 7, 24, 0, 0, 0, []), (20, e0 (.iconst 1)), (21, .goto 4, 25, 0, 0, 0, [])]),
  (100000, [(24, e0 (.iconst 0)), (25, e0 .ireturn)])]
def in_108 : MI := (⟨"HarbourTugs", "isTug", "(I)Z"⟩, prog_1_method_36_code, 2, some .boolean, 1, 0, 0, 22, es_108)
-- 109: HarbourTugs isShip (I)Z
def es_109 : List (Nat × List (Nat × Ent)) := [(7, [(0, e0 (.iload_n 1)), (1, e0 (.iconst 0)), (2, e0 (.bipush 7)), (4, .invokestatic 47, 105, 3, 0, 0, [20056, 10001, 20058, 20057])]),
  (15, [(7, .ifCond .eq 18, 25, 0, 0, 0, []), (10, e0 (.iload_n 1)), (11, e0 (.aload_n 0)), (12, .getfield 21, 6, 1, 3, 0, [20034])]),
  (25, [(15, .getfield 100, 1, 10, 0, 0, [10170]), (18, .if_icmp .ge 7, 25, 0, 0, 0, []), (21, e0 (.iconst 1)), (22, .goto 4, 26, 0, 0, 0, [])]),
  (100000, [(25, e0 (.iconst 0)), (26, e0 .ireturn)])]
def in_109 : MI := (⟨"HarbourTugs", "isShip", "(I)Z"⟩, prog_1_method_37_code, 2, some .boolean, 1, 0, 0, 22, es_109)
-- 110: HarbourTugs isSet (I)Z
def es_110 : List (Nat × List (Nat × Ent)) := [(4, [(0, e0 (.iload_n 1)), (1, e0 (.iconst 1)), (2, e0 (.iconst 1)), (3, e0 (.aload_n 0))]),
  (12, [(4, .getfield 21, 6, 1, 3, 0, [20034]), (7, .getfield 87, 1, 9, 0, 0, [10168]), (10, e0 .ishl), (11, e0 (.iconst 1))]),
  (100000, [(12, e0 .isub), (13, .invokestatic 47, 105, 3, 0, 0, [20056, 10001, 20058, 20057]), (16, e0 .ireturn)])]
def in_110 : MI := (⟨"HarbourTugs", "isSet", "(I)Z"⟩, prog_1_method_38_code, 2, some .boolean, 1, 0, 0, 22, es_110)
-- 111: HarbourTugs isPlanned (I)Z
def es_111 : List (Nat × List (Nat × Ent)) := [(6, [(0, e0 (.iload_n 1)), (1, e0 (.iconst 1)), (2, e0 (.iconst 4)), (3, .invokestatic 47, 105, 3, 0, 0, [20056, 10001, 20058, 20057])]),
  (14, [(6, .ifCond .eq 18, 24, 0, 0, 0, []), (9, e0 (.iload_n 1)), (10, e0 (.aload_n 0)), (11, .getfield 21, 6, 1, 3, 0, [20034])]),
  (24, [(14, .getfield 100, 1, 10, 0, 0, [10170]), (17, .if_icmp .gt 7, 24, 0, 0, 0, []), (20, e0 (.iconst 1)), (21, .goto 4, 25, 0, 0, 0, [])]),
  (100000, [(24, e0 (.iconst 0)), (25, e0 .ireturn)])]
def in_111 : MI := (⟨"HarbourTugs", "isPlanned", "(I)Z"⟩, prog_1_method_39_code, 2, some .boolean, 1, 0, 0, 22, es_111)
-- 112: HarbourTugs hoursAhead (I)J
def es_112 : List (Nat × List (Nat × Ent)) := [(4, [(0, e0 (.lconst 1)), (1, e0 (.iload_n 0)), (2, e0 .lshl), (3, e0 (.lconst 1))]),
  (100000, [(4, e0 .lsub), (5, e0 .lreturn)])]
def in_112 : MI := (⟨"HarbourTugs", "hoursAhead", "(I)J"⟩, prog_1_method_40_code, 1, some .long, 0, 0, 0, 0, es_112)
-- 113: HarbourTugs isIn (II)Z
def es_113 : List (Nat × List (Nat × Ent)) := [(4, [(0, e0 (.iload_n 1)), (1, e0 (.iload_n 0)), (2, e0 .iushr), (3, e0 (.iconst 1))]),
  (12, [(4, e0 .iand), (5, .ifCond .eq 7, 12, 0, 0, 0, []), (8, e0 (.iconst 1)), (9, .goto 4, 13, 0, 0, 0, [])]),
  (100000, [(12, e0 (.iconst 0)), (13, e0 .ireturn)])]
def in_113 : MI := (⟨"HarbourTugs", "isIn", "(II)Z"⟩, prog_1_method_41_code, 2, some .boolean, 0, 0, 0, 0, es_113)
-- 114: HarbourTugsModel <init> ()V
def es_114 : List (Nat × List (Nat × Ent)) := [(19, [(0, e0 (.aload_n 0)), (1, .invokespecial 1, 0, 0, 6, 0, [40052, 10019, 10020]), (4, e0 (.aload_n 0)), (5, e0 (.sipush 218)), (8, .newarray .long, 2000, 0, 0, 0, [40111]), (10, .putfield 7, 7, 0, 2220, 0, [40056]), (13, e0 (.aload_n 0)), (14, e0 (.sipush 654)), (17, .newarray .long, 2000, 0, 0, 0, [40111])]),
  (38, [(19, .putfield 13, 7, 1, 2656, 0, [40057]), (22, e0 (.aload_n 0)), (23, e0 (.bipush 6)), (25, .newarray .int, 1000, 0, 0, 0, [10036]), (27, .putfield 16, 7, 3, 1008, 0, [40059]), (30, e0 (.aload_n 0)), (31, e0 (.bipush 6)), (33, .newarray .int, 1000, 0, 0, 0, [10036]), (35, .putfield 20, 7, 4, 1008, 0, [40060])]),
  (55, [(38, e0 (.aload_n 0)), (39, e0 (.bipush 12)), (41, .newarray .int, 1000, 0, 0, 0, [10036]), (43, .putfield 23, 7, 6, 1014, 0, [40062]), (46, e0 (.aload_n 0)), (47, e0 (.bipush 12)), (49, .newarray .int, 1000, 0, 0, 0, [10036]), (51, .putfield 26, 7, 7, 1014, 0, [40063]), (54, e0 (.aload_n 0))]),
  (73, [(55, e0 (.bipush 12)), (57, .newarray .int, 1000, 0, 0, 0, [10036]), (59, .putfield 29, 7, 8, 1014, 0, [40064]), (62, e0 (.aload_n 0)), (63, e0 (.bipush 12)), (65, .newarray .int, 1000, 0, 0, 0, [10036]), (67, .putfield 32, 7, 9, 1014, 0, [40065]), (70, e0 (.aload_n 0)), (71, e0 (.bipush 22))]),
  (90, [(73, .newarray .long, 2000, 0, 0, 0, [40111]), (75, .putfield 35, 7, 12, 2024, 0, [40068]), (78, e0 (.iconst 0)), (79, e0 (.istore_n 1)), (80, e0 (.iload_n 1)), (81, e0 (.bipush 12)), (83, .if_icmp .ge 18, 101, 0, 0, 0, []), (86, e0 (.aload_n 0)), (87, .getfield 7, 7, 0, 2220, 0, [40056])]),
  (110, [(90, e0 (.iload_n 1)), (91, .ldc2_w 38, 0, 0, 0, 5, [40053]), (94, e0 .lastore), (95, e0 (.iinc 1 1)), (98, .goto (-18), 80, 0, 0, 0, []), (101, e0 (.aload_n 0)), (102, .getfield 7, 7, 0, 2220, 0, [40056]), (105, e0 (.bipush 60)), (107, .ldc2_w 40, 0, 0, 0, 2, [40054])]),
  (124, [(110, e0 .lastore), (111, e0 (.aload_n 0)), (112, .getfield 7, 7, 0, 2220, 0, [40056]), (115, e0 (.bipush 62)), (117, .ldc2_w 42, 0, 0, 0, 10, [40055]), (120, e0 .lastore), (121, e0 (.iconst 0)), (122, e0 (.istore_n 1)), (123, e0 (.iload_n 1))]),
  (139, [(124, e0 (.bipush 6)), (126, .if_icmp .ge 19, 145, 0, 0, 0, []), (129, e0 (.aload_n 0)), (130, .getfield 16, 7, 3, 1008, 0, [40059]), (133, e0 (.iload_n 1)), (134, e0 (.bipush 10)), (136, e0 (.iload_n 1)), (137, e0 .imul), (138, e0 .iastore)]),
  (100000, [(139, e0 (.iinc 1 1)), (142, .goto (-19), 123, 0, 0, 0, []), (145, e0 .return_)])]
def in_114 : MI := (⟨"HarbourTugsModel", "<init>", "()V"⟩, prog_9_method_1_code, 2, none, 1, 9, 954, 20, es_114)
-- 115: HarbourTugsModel in (JJJ)Z
def es_115 : List (Nat × List (Nat × Ent)) := [(6, [(0, e0 (.lload_n 0)), (1, e0 (.lload_n 2)), (2, e0 .lcmp), (3, .ifCond .lt 14, 17, 0, 0, 0, [])]),
  (13, [(6, e0 (.lload_n 0)), (7, e0 (.lload 4)), (9, e0 .lcmp), (10, .ifCond .gt 7, 17, 0, 0, 0, [])]),
  (100000, [(13, e0 (.iconst 1)), (14, .goto 4, 18, 0, 0, 0, []), (17, e0 (.iconst 0)), (18, e0 .ireturn)])]
def in_115 : MI := (⟨"HarbourTugsModel", "in", "(JJJ)Z"⟩, prog_9_method_2_code, 6, some .boolean, 0, 0, 0, 0, es_115)
-- 116: HarbourTugsModel isHour (I)Z
def es_116 : List (Nat × List (Nat × Ent)) := [(6, [(0, e0 (.iload_n 0)), (1, e0 .i2l), (2, e0 (.lconst 0)), (3, .ldc2_w 44, 0, 0, 0, 47, [40128])]),
  (100000, [(6, .invokestatic 46, 115, 3, 0, 0, [40117, 10008, 40119, 40118]), (9, e0 .ireturn)])]
def in_116 : MI := (⟨"HarbourTugsModel", "isHour", "(I)Z"⟩, prog_9_method_3_code, 1, some .boolean, 1, 0, 0, 25, es_116)
-- 117: HarbourTugsModel ofTug (II)I
def es_117 : List (Nat × List (Nat × Ent)) := [(8, [(0, e0 (.aload_n 0)), (1, .getfield 7, 7, 0, 2220, 0, [40056]), (4, e0 (.bipush 70)), (6, e0 (.bipush 10))]),
  (12, [(8, e0 (.iload_n 1)), (9, e0 .imul), (10, e0 .iadd), (11, e0 (.iload_n 2))]),
  (100000, [(12, e0 .iadd), (13, e0 .laload), (14, e0 .l2i), (15, e0 .ireturn)])]
def in_117 : MI := (⟨"HarbourTugsModel", "ofTug", "(II)I"⟩, prog_9_method_4_code, 3, some .int, 0, 0, 0, 0, es_117)
-- 118: HarbourTugsModel ofShip (II)I
def es_118 : List (Nat × List (Nat × Ent)) := [(9, [(0, e0 (.aload_n 0)), (1, .getfield 7, 7, 0, 2220, 0, [40056]), (4, e0 (.sipush 130)), (7, e0 (.bipush 11))]),
  (13, [(9, e0 (.iload_n 1)), (10, e0 .imul), (11, e0 .iadd), (12, e0 (.iload_n 2))]),
  (100000, [(13, e0 .iadd), (14, e0 .laload), (15, e0 .l2i), (16, e0 .ireturn)])]
def in_118 : MI := (⟨"HarbourTugsModel", "ofShip", "(II)I"⟩, prog_9_method_5_code, 3, some .int, 0, 0, 0, 0, es_118)
-- 119: HarbourTugsModel isTug (I)Z
def es_119 : List (Nat × List (Nat × Ent)) := [(4, [(0, e0 (.iload_n 1)), (1, e0 .i2l), (2, e0 (.lconst 0)), (3, e0 (.aload_n 0))]),
  (11, [(4, .getfield 7, 7, 0, 2220, 0, [40056]), (7, e0 (.bipush 64)), (9, e0 .laload), (10, e0 (.lconst 1))]),
  (100000, [(11, e0 .lsub), (12, .invokestatic 46, 115, 3, 0, 0, [40117, 10008, 40119, 40118]), (15, e0 .ireturn)])]
def in_119 : MI := (⟨"HarbourTugsModel", "isTug", "(I)Z"⟩, prog_9_method_6_code, 2, some .boolean, 1, 0, 0, 25, es_119)
-- 120: HarbourTugsModel isShip (I)Z
def es_120 : List (Nat × List (Nat × Ent)) := [(4, [(0, e0 (.iload_n 1)), (1, e0 .i2l), (2, e0 (.lconst 0)), (3, e0 (.aload_n 0))]),
  (11, [(4, .getfield 7, 7, 0, 2220, 0, [40056]), (7, e0 (.bipush 65)), (9, e0 .laload), (10, e0 (.lconst 1))]),
  (100000, [(11, e0 .lsub), (12, .invokestatic 46, 115, 3, 0, 0, [40117, 10008, 40119, 40118]), (15, e0 .ireturn)])]
def in_120 : MI := (⟨"HarbourTugsModel", "isShip", "(I)Z"⟩, prog_9_method_7_code, 2, some .boolean, 1, 0, 0, 25, es_120)
-- 121: HarbourTugsModel isBerth (I)Z
def es_121 : List (Nat × List (Nat × Ent)) := [(6, [(0, e0 (.iload_n 0)), (1, e0 .i2l), (2, e0 (.lconst 0)), (3, .ldc2_w 38, 0, 0, 0, 5, [40053])]),
  (100000, [(6, .invokestatic 46, 115, 3, 0, 0, [40117, 10008, 40119, 40118]), (9, e0 .ireturn)])]
def in_121 : MI := (⟨"HarbourTugsModel", "isBerth", "(I)Z"⟩, prog_9_method_8_code, 1, some .boolean, 1, 0, 0, 25, es_121)
-- 122: HarbourTugsModel tide (II)I
def es_122 : List (Nat × List (Nat × Ent)) := [(12, [(0, e0 (.iload_n 1)), (1, e0 .i2l), (2, e0 (.lconst 0)), (3, .ldc2_w 50, 0, 0, 0, 11, [40116]), (6, .invokestatic 46, 115, 3, 0, 0, [40117, 10008, 40119, 40118]), (9, .ifCond .eq 15, 24, 0, 0, 0, [])]),
  (24, [(12, e0 (.iload_n 2)), (13, e0 .i2l), (14, e0 (.lconst 0)), (15, .ldc2_w 52, 0, 0, 0, 9, [40120]), (18, .invokestatic 46, 115, 3, 0, 0, [40117, 10008, 40119, 40118]), (21, .ifCond .ne 5, 26, 0, 0, 0, [])]),
  (32, [(24, e0 (.iconst (-1))), (25, e0 .ireturn), (26, e0 (.aload_n 0)), (27, .getfield 7, 7, 0, 2220, 0, [40056]), (30, e0 (.iload_n 1)), (31, e0 .laload)]),
  (40, [(32, e0 .l2i), (33, e0 (.istore_n 3)), (34, e0 (.aload_n 0)), (35, .getfield 7, 7, 0, 2220, 0, [40056]), (38, e0 (.iload_n 1)), (39, e0 (.iload_n 2))]),
  (100000, [(40, e0 .i2l), (41, e0 .lastore), (42, e0 (.iload_n 3)), (43, e0 .ireturn)])]
def in_122 : MI := (⟨"HarbourTugsModel", "tide", "(II)I"⟩, prog_9_method_9_code, 4, some .int, 1, 0, 0, 25, es_122)
-- 123: HarbourTugsModel wind (II)I
def es_123 : List (Nat × List (Nat × Ent)) := [(10, [(0, e0 (.iload_n 1)), (1, .invokestatic 54, 116, 1, 0, 0, [40125, 10008, 40127, 40126]), (4, .ifCond .eq 15, 19, 0, 0, 0, []), (7, e0 (.iload_n 2)), (8, e0 .i2l), (9, e0 (.lconst 0))]),
  (22, [(10, .ldc2_w 52, 0, 0, 0, 9, [40120]), (13, .invokestatic 46, 115, 3, 0, 0, [40117, 10008, 40119, 40118]), (16, .ifCond .ne 5, 21, 0, 0, 0, []), (19, e0 (.iconst (-1))), (20, e0 .ireturn), (21, e0 (.aload_n 0))]),
  (31, [(22, .getfield 7, 7, 0, 2220, 0, [40056]), (25, e0 (.bipush 12)), (27, e0 (.iload_n 1)), (28, e0 .iadd), (29, e0 .laload), (30, e0 .l2i)]),
  (40, [(31, e0 (.istore_n 3)), (32, e0 (.aload_n 0)), (33, .getfield 7, 7, 0, 2220, 0, [40056]), (36, e0 (.bipush 12)), (38, e0 (.iload_n 1)), (39, e0 .iadd)]),
  (100000, [(40, e0 (.iload_n 2)), (41, e0 .i2l), (42, e0 .lastore), (43, e0 (.iload_n 3)), (44, e0 .ireturn)])]
def in_123 : MI := (⟨"HarbourTugsModel", "wind", "(II)I"⟩, prog_9_method_10_code, 4, some .int, 2, 0, 0, 45, es_123)
-- 124: HarbourTugsModel rule (II)I
def es_124 : List (Nat × List (Nat × Ent)) := [(13, [(0, e0 (.iload_n 1)), (1, e0 .i2l), (2, e0 (.lconst 0)), (3, .ldc2_w 40, 0, 0, 0, 2, [40054]), (6, .invokestatic 46, 115, 3, 0, 0, [40117, 10008, 40119, 40118]), (9, .ifCond .eq 43, 52, 0, 0, 0, []), (12, e0 (.iload_n 2))]),
  (24, [(13, e0 .i2l), (14, e0 (.iload_n 1)), (15, e0 (.iconst 2)), (16, .if_icmp .ne 7, 23, 0, 0, 0, []), (19, e0 (.lconst 1)), (20, .goto 4, 24, 0, 0, 0, []), (23, e0 (.lconst 0))]),
  (39, [(24, e0 (.iload_n 1)), (25, .ifCond .ne 9, 34, 0, 0, 0, []), (28, .ldc2_w 58, 0, 0, 0, 6, [40133]), (31, .goto 15, 46, 0, 0, 0, []), (34, e0 (.iload_n 1)), (35, e0 (.iconst 1)), (36, .if_icmp .ne 7, 43, 0, 0, 0, [])]),
  (54, [(39, e0 (.lconst 1)), (40, .goto 6, 46, 0, 0, 0, []), (43, .ldc2_w 60, 0, 0, 0, 30, [40134]), (46, .invokestatic 46, 115, 3, 0, 0, [40117, 10008, 40119, 40118]), (49, .ifCond .ne 5, 54, 0, 0, 0, []), (52, e0 (.iconst (-1))), (53, e0 .ireturn)]),
  (64, [(54, e0 (.aload_n 0)), (55, .getfield 7, 7, 0, 2220, 0, [40056]), (58, e0 (.bipush 60)), (60, e0 (.iload_n 1)), (61, e0 .iadd), (62, e0 .laload), (63, e0 .l2i)]),
  (74, [(64, e0 (.istore_n 3)), (65, e0 (.aload_n 0)), (66, .getfield 7, 7, 0, 2220, 0, [40056]), (69, e0 (.bipush 60)), (71, e0 (.iload_n 1)), (72, e0 .iadd), (73, e0 (.iload_n 2))]),
  (100000, [(74, e0 .i2l), (75, e0 .lastore), (76, e0 (.iload_n 3)), (77, e0 .ireturn)])]
def in_124 : MI := (⟨"HarbourTugsModel", "rule", "(II)I"⟩, prog_9_method_11_code, 4, some .int, 1, 0, 0, 25, es_124)
-- 125: HarbourTugsModel hasJob (I)Z
def es_125 : List (Nat × List (Nat × Ent)) := [(7, [(0, e0 (.aload_n 0)), (1, e0 (.iload_n 1)), (2, e0 (.bipush 7)), (4, .invokevirtual 62, 118, 2, 72, 0, [40147, 10008, 40150, 40149, 27])]),
  (15, [(7, .ifCond .lt 7, 14, 0, 0, 0, []), (10, e0 (.iconst 1)), (11, .goto 4, 15, 0, 0, 0, []), (14, e0 (.iconst 0))]),
  (100000, [(15, e0 .ireturn)])]
def in_125 : MI := (⟨"HarbourTugsModel", "hasJob", "(I)Z"⟩, prog_9_method_12_code, 2, some .boolean, 1, 0, 0, 22, es_125)
-- 126: HarbourTugsModel berth (III)I
def es_126 : List (Nat × List (Nat × Ent)) := [(18, [(0, e0 (.iload_n 1)), (1, .invokestatic 66, 121, 1, 0, 0, [40139, 10008, 40141, 40140]), (4, .ifCond .eq 33, 37, 0, 0, 0, []), (7, e0 (.iload_n 2)), (8, e0 .i2l), (9, e0 (.lconst 0)), (10, e0 (.lconst 1)), (11, .invokestatic 46, 115, 3, 0, 0, [40117, 10008, 40119, 40118]), (14, .ifCond .eq 23, 37, 0, 0, 0, []), (17, e0 (.iload_n 3))]),
  (38, [(18, e0 .i2l), (19, e0 (.lconst 0)), (20, e0 (.iload_n 2)), (21, .ifCond .ne 9, 30, 0, 0, 0, []), (24, .ldc2_w 69, 0, 0, 0, 60, [40142]), (27, .goto 4, 31, 0, 0, 0, []), (30, e0 (.lconst 1)), (31, .invokestatic 46, 115, 3, 0, 0, [40117, 10008, 40119, 40118]), (34, .ifCond .ne 5, 39, 0, 0, 0, []), (37, e0 (.iconst (-1)))]),
  (53, [(38, e0 .ireturn), (39, e0 (.iconst 0)), (40, e0 (.istore 4)), (42, e0 (.iload 4)), (44, e0 .i2l), (45, e0 (.aload_n 0)), (46, .getfield 7, 7, 0, 2220, 0, [40056]), (49, e0 (.bipush 65)), (51, e0 .laload), (52, e0 .lcmp)]),
  (73, [(53, .ifCond .ge 44, 97, 0, 0, 0, []), (56, e0 (.aload_n 0)), (57, e0 (.iload 4)), (59, .invokevirtual 71, 125, 1, 72, 0, [40143, 10008, 40146, 40145, 26]), (62, .ifCond .eq 29, 91, 0, 0, 0, []), (65, e0 (.aload_n 0)), (66, e0 (.iload 4)), (68, e0 (.iconst 5)), (69, .invokevirtual 62, 118, 2, 72, 0, [40147, 10008, 40150, 40149, 27]), (72, e0 (.iload_n 1))]),
  (94, [(73, .if_icmp .eq 15, 88, 0, 0, 0, []), (76, e0 (.aload_n 0)), (77, e0 (.iload 4)), (79, e0 (.bipush 6)), (81, .invokevirtual 62, 118, 2, 72, 0, [40147, 10008, 40150, 40149, 27]), (84, e0 (.iload_n 1)), (85, .if_icmp .ne 6, 91, 0, 0, 0, []), (88, e0 (.bipush (-2))), (90, e0 .ireturn), (91, e0 (.iinc 4 1))]),
  (114, [(94, .goto (-52), 42, 0, 0, 0, []), (97, e0 (.iload_n 2)), (98, .ifCond .ne 12, 110, 0, 0, 0, []), (101, e0 (.aload_n 0)), (102, .getfield 16, 7, 3, 1008, 0, [40059]), (105, e0 (.iload_n 1)), (106, e0 .iaload), (107, .goto 9, 116, 0, 0, 0, []), (110, e0 (.aload_n 0)), (111, .getfield 20, 7, 4, 1008, 0, [40060])]),
  (131, [(114, e0 (.iload_n 1)), (115, e0 .iaload), (116, e0 (.istore 4)), (118, e0 (.aload_n 0)), (119, .getfield 16, 7, 3, 1008, 0, [40059]), (122, e0 (.iload_n 1)), (123, e0 (.iload_n 2)), (124, .ifCond .ne 7, 131, 0, 0, 0, []), (127, e0 (.iload_n 3)), (128, .goto 9, 137, 0, 0, 0, [])]),
  (145, [(131, e0 (.aload_n 0)), (132, .getfield 16, 7, 3, 1008, 0, [40059]), (135, e0 (.iload_n 1)), (136, e0 .iaload), (137, e0 .iastore), (138, e0 (.aload_n 0)), (139, .getfield 20, 7, 4, 1008, 0, [40060]), (142, e0 (.iload_n 1)), (143, e0 (.iload_n 2)), (144, e0 (.iconst 1))]),
  (100000, [(145, .if_icmp .ne 7, 152, 0, 0, 0, []), (148, e0 (.iload_n 3)), (149, .goto 9, 158, 0, 0, 0, []), (152, e0 (.aload_n 0)), (153, .getfield 20, 7, 4, 1008, 0, [40060]), (156, e0 (.iload_n 1)), (157, e0 .iaload), (158, e0 .iastore), (159, e0 (.iload 4)), (161, e0 .ireturn)])]
def in_126 : MI := (⟨"HarbourTugsModel", "berth", "(III)I"⟩, prog_9_method_13_code, 5, some .int, 2, 0, 0, 45, es_126)
-- 127: HarbourTugsModel wayOf (II)I
def es_127 : List (Nat × List (Nat × Ent)) := [(11, [(0, e0 (.aload_n 0)), (1, .getfield 16, 7, 3, 1008, 0, [40059]), (4, e0 (.iload_n 1)), (5, e0 .iaload), (6, e0 (.aload_n 0)), (7, .getfield 16, 7, 3, 1008, 0, [40059]), (10, e0 (.iload_n 2))]),
  (22, [(11, e0 .iaload), (12, .if_icmp .ge 19, 31, 0, 0, 0, []), (15, e0 (.aload_n 0)), (16, .getfield 16, 7, 3, 1008, 0, [40059]), (19, e0 (.iload_n 2)), (20, e0 .iaload), (21, e0 (.aload_n 0))]),
  (35, [(22, .getfield 16, 7, 3, 1008, 0, [40059]), (25, e0 (.iload_n 1)), (26, e0 .iaload), (27, e0 .isub), (28, .goto 16, 44, 0, 0, 0, []), (31, e0 (.aload_n 0)), (32, .getfield 16, 7, 3, 1008, 0, [40059])]),
  (44, [(35, e0 (.iload_n 1)), (36, e0 .iaload), (37, e0 (.aload_n 0)), (38, .getfield 16, 7, 3, 1008, 0, [40059]), (41, e0 (.iload_n 2)), (42, e0 .iaload), (43, e0 .isub)]),
  (55, [(44, e0 (.istore_n 3)), (45, e0 (.aload_n 0)), (46, .getfield 7, 7, 0, 2220, 0, [40056]), (49, e0 (.bipush 62)), (51, e0 .laload), (52, e0 .l2i), (53, e0 (.istore 4))]),
  (64, [(55, e0 (.iload_n 3)), (56, e0 (.iload 4)), (58, e0 .iadd), (59, e0 (.iconst 1)), (60, e0 .isub), (61, e0 (.iload 4)), (63, e0 .idiv)]),
  (100000, [(64, e0 .ireturn)])]
def in_127 : MI := (⟨"HarbourTugsModel", "wayOf", "(II)I"⟩, prog_9_method_14_code, 5, some .int, 0, 0, 0, 0, es_127)
-- 128: HarbourTugsModel way (II)I
def es_128 : List (Nat × List (Nat × Ent)) := [(8, [(0, e0 (.iload_n 1)), (1, .invokestatic 66, 121, 1, 0, 0, [40139, 10008, 40141, 40140]), (4, .ifCond .eq 19, 23, 0, 0, 0, []), (7, e0 (.iload_n 2))]),
  (16, [(8, .invokestatic 66, 121, 1, 0, 0, [40139, 10008, 40141, 40140]), (11, .ifCond .eq 12, 23, 0, 0, 0, []), (14, e0 (.aload_n 0)), (15, e0 (.iload_n 1))]),
  (24, [(16, e0 (.iload_n 2)), (17, .invokevirtual 74, 127, 2, 72, 0, [40155, 10008, 40158, 40157, 28]), (20, .goto 4, 24, 0, 0, 0, []), (23, e0 (.iconst (-1)))]),
  (100000, [(24, e0 .ireturn)])]
def in_128 : MI := (⟨"HarbourTugsModel", "way", "(II)I"⟩, prog_9_method_15_code, 3, some .int, 2, 0, 0, 45, es_128)
-- 129: HarbourTugsModel tug (IIIIIII)I
def es_129 : List (Nat × List (Nat × Ent)) := [(23, [(0, e0 (.iload_n 1)), (1, e0 .i2l), (2, e0 (.lconst 0)), (3, e0 (.lconst 1)), (4, .invokestatic 46, 115, 3, 0, 0, [40117, 10008, 40119, 40118]), (7, .ifCond .eq 72, 79, 0, 0, 0, []), (10, e0 (.iload_n 2)), (11, e0 .i2l), (12, e0 (.lconst 1)), (13, .ldc2_w 69, 0, 0, 0, 60, [40142]), (16, .invokestatic 46, 115, 3, 0, 0, [40117, 10008, 40119, 40118]), (19, .ifCond .eq 60, 79, 0, 0, 0, []), (22, e0 (.iload_n 3))]),
  (48, [(23, e0 .i2l), (24, e0 (.lconst 0)), (25, e0 (.lconst 1)), (26, .invokestatic 46, 115, 3, 0, 0, [40117, 10008, 40119, 40118]), (29, .ifCond .eq 50, 79, 0, 0, 0, []), (32, e0 (.iload 5)), (34, e0 .i2l), (35, e0 (.lconst 1)), (36, .ldc2_w 77, 0, 0, 0, 48, [40163]), (39, .invokestatic 46, 115, 3, 0, 0, [40117, 10008, 40119, 40118]), (42, .ifCond .eq 37, 79, 0, 0, 0, []), (45, e0 (.iload 4)), (47, e0 .i2l)]),
  (76, [(48, e0 (.lconst 0)), (49, e0 (.iload 5)), (51, e0 .i2l), (52, .invokestatic 46, 115, 3, 0, 0, [40117, 10008, 40119, 40118]), (55, .ifCond .eq 24, 79, 0, 0, 0, []), (58, e0 (.iload 6)), (60, e0 .i2l), (61, e0 (.lconst 1)), (62, .ldc2_w 79, 0, 0, 0, 12, [40164]), (65, .invokestatic 46, 115, 3, 0, 0, [40117, 10008, 40119, 40118]), (68, .ifCond .eq 11, 79, 0, 0, 0, []), (71, e0 (.iload 7)), (73, .invokestatic 66, 121, 1, 0, 0, [40139, 10008, 40141, 40140])]),
  (100, [(76, .ifCond .ne 5, 81, 0, 0, 0, []), (79, e0 (.iconst (-1))), (80, e0 .ireturn), (81, e0 (.aload_n 0)), (82, .getfield 7, 7, 0, 2220, 0, [40056]), (85, e0 (.bipush 64)), (87, e0 .laload), (88, .ldc2_w 58, 0, 0, 0, 6, [40133]), (91, e0 .lcmp), (92, .ifCond .ne 6, 98, 0, 0, 0, []), (95, e0 (.bipush (-3))), (97, e0 .ireturn), (98, e0 (.bipush 70))]),
  (121, [(100, e0 (.bipush 10)), (102, e0 (.aload_n 0)), (103, .getfield 7, 7, 0, 2220, 0, [40056]), (106, e0 (.bipush 64)), (108, e0 .laload), (109, e0 .l2i), (110, e0 .imul), (111, e0 .iadd), (112, e0 (.istore 8)), (114, e0 (.aload_n 0)), (115, .getfield 7, 7, 0, 2220, 0, [40056]), (118, e0 (.iload 8)), (120, e0 (.iconst 0))]),
  (137, [(121, e0 .iadd), (122, e0 (.iload_n 1)), (123, e0 .i2l), (124, e0 .lastore), (125, e0 (.aload_n 0)), (126, .getfield 7, 7, 0, 2220, 0, [40056]), (129, e0 (.iload 8)), (131, e0 (.iconst 1)), (132, e0 .iadd), (133, e0 (.iload_n 2)), (134, e0 .i2l), (135, e0 .lastore), (136, e0 (.aload_n 0))]),
  (157, [(137, .getfield 7, 7, 0, 2220, 0, [40056]), (140, e0 (.iload 8)), (142, e0 (.iconst 2)), (143, e0 .iadd), (144, e0 (.iload_n 3)), (145, e0 .i2l), (146, e0 .lastore), (147, e0 (.aload_n 0)), (148, .getfield 7, 7, 0, 2220, 0, [40056]), (151, e0 (.iload 8)), (153, e0 (.iconst 3)), (154, e0 .iadd), (155, e0 (.iload 4))]),
  (177, [(157, e0 .i2l), (158, e0 .lastore), (159, e0 (.aload_n 0)), (160, .getfield 7, 7, 0, 2220, 0, [40056]), (163, e0 (.iload 8)), (165, e0 (.iconst 4)), (166, e0 .iadd), (167, e0 (.iload 5)), (169, e0 .i2l), (170, e0 .lastore), (171, e0 (.aload_n 0)), (172, .getfield 7, 7, 0, 2220, 0, [40056]), (175, e0 (.iload 8))]),
  (196, [(177, e0 (.iconst 5)), (178, e0 .iadd), (179, e0 (.iload 6)), (181, e0 .i2l), (182, e0 .lastore), (183, e0 (.aload_n 0)), (184, .getfield 7, 7, 0, 2220, 0, [40056]), (187, e0 (.iload 8)), (189, e0 (.bipush 6)), (191, e0 .iadd), (192, e0 (.iload 7)), (194, e0 .i2l), (195, e0 .lastore)]),
  (219, [(196, e0 (.aload_n 0)), (197, .getfield 7, 7, 0, 2220, 0, [40056]), (200, e0 (.iload 8)), (202, e0 (.bipush 7)), (204, e0 .iadd), (205, .ldc2_w 77, 0, 0, 0, 48, [40163]), (208, e0 .lastore), (209, e0 (.aload_n 0)), (210, .getfield 7, 7, 0, 2220, 0, [40056]), (213, e0 (.iload 8)), (215, e0 (.bipush 8)), (217, e0 .iadd), (218, e0 (.lconst 0))]),
  (239, [(219, e0 .lastore), (220, e0 (.aload_n 0)), (221, .getfield 7, 7, 0, 2220, 0, [40056]), (224, e0 (.iload 8)), (226, e0 (.bipush 9)), (228, e0 .iadd), (229, e0 (.lconst 0)), (230, e0 .lastore), (231, e0 (.aload_n 0)), (232, .getfield 7, 7, 0, 2220, 0, [40056]), (235, e0 (.bipush 64)), (237, e0 .dup2), (238, e0 .laload)]),
  (100000, [(239, e0 (.lconst 1)), (240, e0 .ladd), (241, e0 .lastore), (242, e0 (.aload_n 0)), (243, .getfield 7, 7, 0, 2220, 0, [40056]), (246, e0 (.bipush 64)), (248, e0 .laload), (249, e0 .l2i), (250, e0 (.iconst 1)), (251, e0 .isub), (252, e0 .ireturn)])]
def in_129 : MI := (⟨"HarbourTugsModel", "tug", "(IIIIIII)I"⟩, prog_9_method_16_code, 9, some .int, 2, 0, 0, 45, es_129)
-- 130: HarbourTugsModel ship (IIIIIII)I
def es_130 : List (Nat × List (Nat × Ent)) := [(24, [(0, e0 (.iload_n 1)), (1, e0 .i2l), (2, e0 (.lconst 1)), (3, .ldc2_w 81, 0, 0, 0, 50, [40169]), (6, .invokestatic 46, 115, 3, 0, 0, [40117, 10008, 40119, 40118]), (9, .ifCond .eq 64, 73, 0, 0, 0, []), (12, e0 (.iload_n 2)), (13, e0 .i2l), (14, e0 (.lconst 0)), (15, .ldc2_w 52, 0, 0, 0, 9, [40120]), (18, .invokestatic 46, 115, 3, 0, 0, [40117, 10008, 40119, 40118]), (21, .ifCond .eq 52, 73, 0, 0, 0, [])]),
  (48, [(24, e0 (.iload_n 3)), (25, .invokestatic 54, 116, 1, 0, 0, [40125, 10008, 40127, 40126]), (28, .ifCond .eq 45, 73, 0, 0, 0, []), (31, e0 (.iload 4)), (33, e0 .i2l), (34, e0 (.lconst 1)), (35, .ldc2_w 83, 0, 0, 0, 4, [40170]), (38, .invokestatic 46, 115, 3, 0, 0, [40117, 10008, 40119, 40118]), (41, .ifCond .eq 32, 73, 0, 0, 0, []), (44, e0 (.iload 5)), (46, e0 .i2l), (47, e0 (.lconst 1))]),
  (76, [(48, .ldc2_w 85, 0, 0, 0, 20, [40171]), (51, .invokestatic 46, 115, 3, 0, 0, [40117, 10008, 40119, 40118]), (54, .ifCond .eq 19, 73, 0, 0, 0, []), (57, e0 (.iload 6)), (59, .invokestatic 66, 121, 1, 0, 0, [40139, 10008, 40141, 40140]), (62, .ifCond .eq 11, 73, 0, 0, 0, []), (65, e0 (.iload 7)), (67, .invokestatic 66, 121, 1, 0, 0, [40139, 10008, 40141, 40140]), (70, .ifCond .ne 5, 75, 0, 0, 0, []), (73, e0 (.iconst (-1))), (74, e0 .ireturn), (75, e0 (.aload_n 0))]),
  (101, [(76, .getfield 7, 7, 0, 2220, 0, [40056]), (79, e0 (.bipush 65)), (81, e0 .laload), (82, .ldc2_w 87, 0, 0, 0, 8, [40172]), (85, e0 .lcmp), (86, .ifCond .ne 6, 92, 0, 0, 0, []), (89, e0 (.bipush (-3))), (91, e0 .ireturn), (92, e0 (.sipush 130)), (95, e0 (.bipush 11)), (97, e0 (.aload_n 0)), (98, .getfield 7, 7, 0, 2220, 0, [40056])]),
  (118, [(101, e0 (.bipush 65)), (103, e0 .laload), (104, e0 .l2i), (105, e0 .imul), (106, e0 .iadd), (107, e0 (.istore 8)), (109, e0 (.aload_n 0)), (110, .getfield 7, 7, 0, 2220, 0, [40056]), (113, e0 (.iload 8)), (115, e0 (.iconst 0)), (116, e0 .iadd), (117, e0 (.iload_n 1))]),
  (135, [(118, e0 .i2l), (119, e0 .lastore), (120, e0 (.aload_n 0)), (121, .getfield 7, 7, 0, 2220, 0, [40056]), (124, e0 (.iload 8)), (126, e0 (.iconst 1)), (127, e0 .iadd), (128, e0 (.iload_n 2)), (129, e0 .i2l), (130, e0 .lastore), (131, e0 (.aload_n 0)), (132, .getfield 7, 7, 0, 2220, 0, [40056])]),
  (152, [(135, e0 (.iload 8)), (137, e0 (.iconst 2)), (138, e0 .iadd), (139, e0 (.iload_n 3)), (140, e0 .i2l), (141, e0 .lastore), (142, e0 (.aload_n 0)), (143, .getfield 7, 7, 0, 2220, 0, [40056]), (146, e0 (.iload 8)), (148, e0 (.iconst 3)), (149, e0 .iadd), (150, e0 (.iload 4))]),
  (170, [(152, e0 .i2l), (153, e0 .lastore), (154, e0 (.aload_n 0)), (155, .getfield 7, 7, 0, 2220, 0, [40056]), (158, e0 (.iload 8)), (160, e0 (.iconst 4)), (161, e0 .iadd), (162, e0 (.iload 5)), (164, e0 .i2l), (165, e0 .lastore), (166, e0 (.aload_n 0)), (167, .getfield 7, 7, 0, 2220, 0, [40056])]),
  (189, [(170, e0 (.iload 8)), (172, e0 (.iconst 5)), (173, e0 .iadd), (174, e0 (.iload 6)), (176, e0 .i2l), (177, e0 .lastore), (178, e0 (.aload_n 0)), (179, .getfield 7, 7, 0, 2220, 0, [40056]), (182, e0 (.iload 8)), (184, e0 (.bipush 6)), (186, e0 .iadd), (187, e0 (.iload 7))]),
  (210, [(189, e0 .i2l), (190, e0 .lastore), (191, e0 (.aload_n 0)), (192, .getfield 7, 7, 0, 2220, 0, [40056]), (195, e0 (.iload 8)), (197, e0 (.bipush 7)), (199, e0 .iadd), (200, .ldc2_w 89, 0, 0, 0, (-4), [40173]), (203, e0 .lastore), (204, e0 (.aload_n 0)), (205, .getfield 7, 7, 0, 2220, 0, [40056]), (208, e0 (.iload 8))]),
  (226, [(210, e0 (.bipush 8)), (212, e0 .iadd), (213, e0 (.lconst 0)), (214, e0 .lastore), (215, e0 (.aload_n 0)), (216, .getfield 7, 7, 0, 2220, 0, [40056]), (219, e0 (.bipush 65)), (221, e0 .dup2), (222, e0 .laload), (223, e0 (.lconst 1)), (224, e0 .ladd), (225, e0 .lastore)]),
  (100000, [(226, e0 (.aload_n 0)), (227, .getfield 7, 7, 0, 2220, 0, [40056]), (230, e0 (.bipush 65)), (232, e0 .laload), (233, e0 .l2i), (234, e0 (.iconst 1)), (235, e0 .isub), (236, e0 .ireturn)])]
def in_130 : MI := (⟨"HarbourTugsModel", "ship", "(IIIIIII)I"⟩, prog_9_method_17_code, 9, some .int, 2, 0, 0, 45, es_130)
-- 131: HarbourTugsModel needsOf (II)I
def es_131 : List (Nat × List (Nat × Ent)) := [(7, [(0, e0 (.aload_n 0)), (1, e0 (.iload_n 1)), (2, e0 (.iconst 0)), (3, .invokevirtual 62, 118, 2, 72, 0, [40147, 10008, 40150, 40149, 27]), (6, e0 (.aload_n 0))]),
  (16, [(7, e0 (.iload_n 1)), (8, e0 (.iconst 0)), (9, .invokevirtual 62, 118, 2, 72, 0, [40147, 10008, 40150, 40149, 27]), (12, e0 (.aload_n 0)), (13, .getfield 7, 7, 0, 2220, 0, [40056])]),
  (22, [(16, e0 (.bipush 12)), (18, e0 (.iload_n 2)), (19, e0 .iadd), (20, e0 .laload), (21, e0 .l2i)]),
  (100000, [(22, e0 .imul), (23, e0 (.iconst 5)), (24, e0 .idiv), (25, e0 .iadd), (26, e0 .ireturn)])]
def in_131 : MI := (⟨"HarbourTugsModel", "needsOf", "(II)I"⟩, prog_9_method_18_code, 3, some .int, 1, 0, 0, 22, es_131)
-- 132: HarbourTugsModel needs (II)I
def es_132 : List (Nat × List (Nat × Ent)) := [(8, [(0, e0 (.aload_n 0)), (1, e0 (.iload_n 1)), (2, .invokevirtual 91, 120, 1, 72, 0, [40178, 10008, 40181, 40180, 29]), (5, .ifCond .eq 19, 24, 0, 0, 0, [])]),
  (16, [(8, e0 (.iload_n 2)), (9, .invokestatic 54, 116, 1, 0, 0, [40125, 10008, 40127, 40126]), (12, .ifCond .eq 12, 24, 0, 0, 0, []), (15, e0 (.aload_n 0))]),
  (24, [(16, e0 (.iload_n 1)), (17, e0 (.iload_n 2)), (18, .invokevirtual 94, 131, 2, 72, 0, [40182, 10008, 40185, 40184, 30]), (21, .goto 4, 25, 0, 0, 0, [])]),
  (100000, [(24, e0 (.iconst (-1))), (25, e0 .ireturn)])]
def in_132 : MI := (⟨"HarbourTugsModel", "needs", "(II)I"⟩, prog_9_method_19_code, 3, some .int, 2, 0, 0, 46, es_132)
-- 133: HarbourTugsModel has (JI)Z
def es_133 : List (Nat × List (Nat × Ent)) := [(4, [(0, e0 (.lload_n 0)), (1, e0 (.iload_n 2)), (2, e0 .lshr), (3, e0 (.lconst 1))]),
  (10, [(4, e0 .land), (5, e0 (.lconst 1)), (6, e0 .lcmp), (7, .ifCond .ne 7, 14, 0, 0, 0, [])]),
  (100000, [(10, e0 (.iconst 1)), (11, .goto 4, 15, 0, 0, 0, []), (14, e0 (.iconst 0)), (15, e0 .ireturn)])]
def in_133 : MI := (⟨"HarbourTugsModel", "has", "(JI)Z"⟩, prog_9_method_20_code, 3, some .boolean, 0, 0, 0, 0, es_133)
-- 134: HarbourTugsModel hours (II)J
def es_134 : List (Nat × List (Nat × Ent)) := [(4, [(0, e0 (.lconst 1)), (1, e0 (.iload_n 1)), (2, e0 .lshl), (3, e0 (.lconst 1))]),
  (100000, [(4, e0 (.iload_n 0)), (5, e0 .lshl), (6, e0 .lsub), (7, e0 .lreturn)])]
def in_134 : MI := (⟨"HarbourTugsModel", "hours", "(II)J"⟩, prog_9_method_21_code, 2, some .long, 0, 0, 0, 0, es_134)
-- 135: HarbourTugsModel workOf (I)J
def es_135 : List (Nat × List (Nat × Ent)) := [(8, [(0, e0 (.aload_n 0)), (1, .getfield 7, 7, 0, 2220, 0, [40056]), (4, e0 (.bipush 70)), (6, e0 (.bipush 10))]),
  (13, [(8, e0 (.iload_n 1)), (9, e0 .imul), (10, e0 .iadd), (11, e0 (.bipush 8))]),
  (100000, [(13, e0 .iadd), (14, e0 .laload), (15, e0 .lreturn)])]
def in_135 : MI := (⟨"HarbourTugsModel", "workOf", "(I)J"⟩, prog_9_method_22_code, 2, some .long, 0, 0, 0, 0, es_135)
-- 136: HarbourTugsModel bunkersOf (I)J
def es_136 : List (Nat × List (Nat × Ent)) := [(8, [(0, e0 (.aload_n 0)), (1, .getfield 7, 7, 0, 2220, 0, [40056]), (4, e0 (.bipush 70)), (6, e0 (.bipush 10))]),
  (13, [(8, e0 (.iload_n 1)), (9, e0 .imul), (10, e0 .iadd), (11, e0 (.bipush 9))]),
  (100000, [(13, e0 .iadd), (14, e0 .laload), (15, e0 .lreturn)])]
def in_136 : MI := (⟨"HarbourTugsModel", "bunkersOf", "(I)J"⟩, prog_9_method_23_code, 2, some .long, 0, 0, 0, 0, es_136)
-- 137: HarbourTugsModel fuelBehind (IJI)I
def es_137 : List (Nat × List (Nat × Ent)) := [(13, [(0, e0 (.aload_n 0)), (1, e0 (.iload_n 1)), (2, e0 (.iconst 3)), (3, .invokevirtual 97, 117, 2, 72, 0, [40203, 10008, 40206, 40205, 34]), (6, e0 (.istore 5)), (8, e0 (.iconst 0)), (9, e0 (.istore 6)), (11, e0 (.iload 6))]),
  (31, [(13, e0 (.iload 4)), (15, .if_icmp .gt 81, 96, 0, 0, 0, []), (18, e0 (.iload 5)), (20, .ifCond .lt 76, 96, 0, 0, 0, []), (23, e0 (.iload 5)), (25, e0 (.lload_n 2)), (26, e0 (.iload 6)), (28, .invokestatic 100, 133, 2, 0, 0, [40207, 10008, 40209, 40208])]),
  (45, [(31, .ifCond .eq 7, 38, 0, 0, 0, []), (34, e0 (.iconst 1)), (35, .goto 4, 39, 0, 0, 0, []), (38, e0 (.iconst 0)), (39, e0 .isub), (40, e0 (.istore 5)), (42, e0 (.iload 5)), (44, e0 (.aload_n 0))]),
  (63, [(45, e0 (.iload_n 1)), (46, .invokevirtual 104, 136, 1, 72, 0, [40210, 10008, 40213, 40212, 35]), (49, e0 (.iload 6)), (51, .invokestatic 100, 133, 2, 0, 0, [40207, 10008, 40209, 40208]), (54, .ifCond .eq 8, 62, 0, 0, 0, []), (57, e0 (.bipush 12)), (59, .goto 4, 63, 0, 0, 0, []), (62, e0 (.iconst 0))]),
  (77, [(63, e0 .iadd), (64, e0 (.istore 5)), (66, e0 (.iload 5)), (68, e0 (.aload_n 0)), (69, e0 (.iload_n 1)), (70, e0 (.iconst 4)), (71, .invokevirtual 97, 117, 2, 72, 0, [40203, 10008, 40206, 40205, 34]), (74, .if_icmp .le 12, 86, 0, 0, 0, [])]),
  (93, [(77, e0 (.aload_n 0)), (78, e0 (.iload_n 1)), (79, e0 (.iconst 4)), (80, .invokevirtual 97, 117, 2, 72, 0, [40203, 10008, 40206, 40205, 34]), (83, .goto 5, 88, 0, 0, 0, []), (86, e0 (.iload 5)), (88, e0 (.istore 5)), (90, e0 (.iinc 6 1))]),
  (100000, [(93, .goto (-82), 11, 0, 0, 0, []), (96, e0 (.iload 5)), (98, e0 .ireturn)])]
def in_137 : MI := (⟨"HarbourTugsModel", "fuelBehind", "(IJI)I"⟩, prog_9_method_24_code, 7, some .int, 1, 0, 0, 22, es_137)
-- 138: HarbourTugsModel fuel (II)I
def es_138 : List (Nat × List (Nat × Ent)) := [(9, [(0, e0 (.aload_n 0)), (1, e0 (.iload_n 1)), (2, .invokevirtual 108, 119, 1, 72, 0, [40190, 10008, 40193, 40192, 31]), (5, .ifCond .eq 31, 36, 0, 0, 0, []), (8, e0 (.iload_n 2))]),
  (22, [(9, e0 .i2l), (10, .ldc2_w 111, 0, 0, 0, (-1), [40194]), (13, .ldc2_w 44, 0, 0, 0, 47, [40128]), (16, .invokestatic 46, 115, 3, 0, 0, [40117, 10008, 40119, 40118]), (19, .ifCond .eq 17, 36, 0, 0, 0, [])]),
  (29, [(22, e0 (.aload_n 0)), (23, e0 (.iload_n 1)), (24, e0 (.aload_n 0)), (25, e0 (.iload_n 1)), (26, .invokevirtual 113, 135, 1, 72, 0, [40195, 10008, 40198, 40197, 32])]),
  (100000, [(29, e0 (.iload_n 2)), (30, .invokevirtual 116, 137, 3, 72, 0, [40199, 10008, 40202, 40201, 33]), (33, .goto 4, 37, 0, 0, 0, []), (36, e0 (.iconst (-1))), (37, e0 .ireturn)])]
def in_138 : MI := (⟨"HarbourTugsModel", "fuel", "(II)I"⟩, prog_9_method_25_code, 3, some .int, 2, 0, 0, 48, es_138)
-- 139: HarbourTugsModel bunker (II)I
def es_139 : List (Nat × List (Nat × Ent)) := [(16, [(0, e0 (.aload_n 0)), (1, e0 (.iload_n 1)), (2, .invokevirtual 108, 119, 1, 72, 0, [40190, 10008, 40193, 40192, 31]), (5, .ifCond .eq 10, 15, 0, 0, 0, []), (8, e0 (.iload_n 2)), (9, .invokestatic 54, 116, 1, 0, 0, [40125, 10008, 40127, 40126]), (12, .ifCond .ne 5, 17, 0, 0, 0, []), (15, e0 (.iconst (-1)))]),
  (30, [(16, e0 .ireturn), (17, e0 (.aload_n 0)), (18, e0 (.iload_n 1)), (19, .invokevirtual 113, 135, 1, 72, 0, [40195, 10008, 40198, 40197, 32]), (22, e0 (.iload_n 2)), (23, .invokestatic 100, 133, 2, 0, 0, [40207, 10008, 40209, 40208]), (26, .ifCond .ne 40, 66, 0, 0, 0, []), (29, e0 (.aload_n 0))]),
  (45, [(30, e0 (.iload_n 1)), (31, .invokevirtual 104, 136, 1, 72, 0, [40210, 10008, 40213, 40212, 35]), (34, e0 (.iload_n 2)), (35, .invokestatic 100, 133, 2, 0, 0, [40207, 10008, 40209, 40208]), (38, .ifCond .ne 28, 66, 0, 0, 0, []), (41, e0 (.aload_n 0)), (42, e0 (.iload_n 1)), (43, e0 (.bipush 7))]),
  (60, [(45, .invokevirtual 97, 117, 2, 72, 0, [40203, 10008, 40206, 40205, 34]), (48, e0 (.iload_n 2)), (49, .if_icmp .le 17, 66, 0, 0, 0, []), (52, e0 (.aload_n 0)), (53, .getfield 7, 7, 0, 2220, 0, [40056]), (56, e0 (.bipush 63)), (58, e0 .laload), (59, e0 (.iload_n 2))]),
  (77, [(60, .invokestatic 100, 133, 2, 0, 0, [40207, 10008, 40209, 40208]), (63, .ifCond .eq 6, 69, 0, 0, 0, []), (66, e0 (.bipush (-2))), (68, e0 .ireturn), (69, e0 (.aload_n 0)), (70, .getfield 7, 7, 0, 2220, 0, [40056]), (73, e0 (.bipush 70)), (75, e0 (.bipush 10))]),
  (86, [(77, e0 (.iload_n 1)), (78, e0 .imul), (79, e0 .iadd), (80, e0 (.bipush 9)), (82, e0 .iadd), (83, e0 .dup2), (84, e0 .laload), (85, e0 (.lconst 1))]),
  (94, [(86, e0 (.iload_n 2)), (87, e0 .lshl), (88, e0 .lor), (89, e0 .lastore), (90, e0 (.aload_n 0)), (91, e0 (.iload_n 1)), (92, e0 (.aload_n 0)), (93, e0 (.iload_n 1))]),
  (100000, [(94, .invokevirtual 113, 135, 1, 72, 0, [40195, 10008, 40198, 40197, 32]), (97, e0 (.bipush 47)), (99, .invokevirtual 116, 137, 3, 72, 0, [40199, 10008, 40202, 40201, 33]), (102, e0 .ireturn)])]
def in_139 : MI := (⟨"HarbourTugsModel", "bunker", "(II)I"⟩, prog_9_method_26_code, 3, some .int, 2, 0, 0, 48, es_139)
-- 140: HarbourTugsModel pullOf (I)I
def es_140 : List (Nat × List (Nat × Ent)) := [(6, [(0, e0 (.iconst 0)), (1, e0 (.istore_n 2)), (2, e0 (.iconst 0)), (3, e0 (.istore_n 3)), (4, e0 (.iload_n 3)), (5, e0 .i2l)]),
  (17, [(6, e0 (.aload_n 0)), (7, .getfield 7, 7, 0, 2220, 0, [40056]), (10, e0 (.bipush 64)), (12, e0 .laload), (13, e0 .lcmp), (14, .ifCond .ge 31, 45, 0, 0, 0, [])]),
  (23, [(17, e0 (.iload_n 2)), (18, e0 (.iload_n 1)), (19, e0 (.iload_n 3)), (20, e0 .ishr), (21, e0 (.iconst 1)), (22, e0 .iand)]),
  (33, [(23, e0 (.iconst 1)), (24, .if_icmp .ne 12, 36, 0, 0, 0, []), (27, e0 (.aload_n 0)), (28, e0 (.iload_n 3)), (29, e0 (.iconst 1)), (30, .invokevirtual 97, 117, 2, 72, 0, [40203, 10008, 40206, 40205, 34])]),
  (45, [(33, .goto 4, 37, 0, 0, 0, []), (36, e0 (.iconst 0)), (37, e0 .iadd), (38, e0 (.istore_n 2)), (39, e0 (.iinc 3 1)), (42, .goto (-38), 4, 0, 0, 0, [])]),
  (100000, [(45, e0 (.iload_n 2)), (46, e0 .ireturn)])]
def in_140 : MI := (⟨"HarbourTugsModel", "pullOf", "(I)I"⟩, prog_9_method_27_code, 4, some .int, 1, 0, 0, 22, es_140)
-- 141: HarbourTugsModel rests (IJ)Z
def es_141 : List (Nat × List (Nat × Ent)) := [(14, [(0, e0 (.aload_n 0)), (1, e0 (.iload_n 1)), (2, e0 (.iconst 5)), (3, .invokevirtual 97, 117, 2, 72, 0, [40203, 10008, 40206, 40205, 34]), (6, e0 (.istore 4)), (8, e0 (.iload 4)), (10, e0 (.aload_n 0)), (11, .getfield 7, 7, 0, 2220, 0, [40056])]),
  (25, [(14, e0 (.bipush 60)), (16, e0 .laload), (17, e0 .l2i), (18, e0 .iadd), (19, e0 (.istore 5)), (21, e0 (.iconst 1)), (22, e0 (.istore 6)), (24, e0 (.iconst 0))]),
  (40, [(25, e0 (.istore 7)), (27, e0 (.iload 7)), (29, e0 (.iload 5)), (31, e0 .iadd), (32, e0 (.bipush 48)), (34, .if_icmp .gt 70, 104, 0, 0, 0, []), (37, e0 (.iconst 0)), (38, e0 (.istore 8))]),
  (56, [(40, e0 (.iload 7)), (42, e0 (.istore 9)), (44, e0 (.iload 9)), (46, e0 (.iload 7)), (48, e0 (.iload 5)), (50, e0 .iadd), (51, .if_icmp .ge 28, 79, 0, 0, 0, []), (54, e0 (.iload 8))]),
  (71, [(56, e0 (.lload_n 2)), (57, e0 (.iload 9)), (59, .invokestatic 100, 133, 2, 0, 0, [40207, 10008, 40209, 40208]), (62, .ifCond .eq 7, 69, 0, 0, 0, []), (65, e0 (.iconst 1)), (66, .goto 4, 70, 0, 0, 0, []), (69, e0 (.iconst 0)), (70, e0 .iadd)]),
  (91, [(71, e0 (.istore 8)), (73, e0 (.iinc 9 1)), (76, .goto (-32), 44, 0, 0, 0, []), (79, e0 (.iload 6)), (81, .ifCond .eq 14, 95, 0, 0, 0, []), (84, e0 (.iload 8)), (86, e0 (.iload 4)), (88, .if_icmp .gt 7, 95, 0, 0, 0, [])]),
  (100000, [(91, e0 (.iconst 1)), (92, .goto 4, 96, 0, 0, 0, []), (95, e0 (.iconst 0)), (96, e0 (.istore 6)), (98, e0 (.iinc 7 1)), (101, .goto (-74), 27, 0, 0, 0, []), (104, e0 (.iload 6)), (106, e0 .ireturn)])]
def in_141 : MI := (⟨"HarbourTugsModel", "rests", "(IJ)Z"⟩, prog_9_method_28_code, 10, some .boolean, 1, 0, 0, 22, es_141)
-- 142: HarbourTugsModel last (I)I
def es_142 : List (Nat × List (Nat × Ent)) := [(7, [(0, e0 (.aload_n 0)), (1, e0 (.iload_n 1)), (2, e0 (.bipush 7)), (4, .invokevirtual 62, 118, 2, 72, 0, [40147, 10008, 40150, 40149, 27])]),
  (13, [(7, e0 (.aload_n 0)), (8, e0 (.iload_n 1)), (9, e0 (.iconst 3)), (10, .invokevirtual 62, 118, 2, 72, 0, [40147, 10008, 40150, 40149, 27])]),
  (100000, [(13, e0 .iadd), (14, e0 (.iconst 1)), (15, e0 .isub), (16, e0 .ireturn)])]
def in_142 : MI := (⟨"HarbourTugsModel", "last", "(I)I"⟩, prog_9_method_29_code, 2, some .int, 1, 0, 0, 22, es_142)
-- 143: HarbourTugsModel isOf (II)Z
def es_143 : List (Nat × List (Nat × Ent)) := [(9, [(0, e0 (.aload_n 0)), (1, e0 (.iload_n 1)), (2, .invokevirtual 71, 125, 1, 72, 0, [40143, 10008, 40146, 40145, 26]), (5, .ifCond .eq 22, 27, 0, 0, 0, []), (8, e0 (.aload_n 0))]),
  (17, [(9, e0 (.iload_n 1)), (10, e0 (.bipush 8)), (12, .invokevirtual 62, 118, 2, 72, 0, [40147, 10008, 40150, 40149, 27]), (15, e0 (.iload_n 2)), (16, e0 .ishr)]),
  (24, [(17, e0 (.iconst 1)), (18, e0 .iand), (19, e0 (.iconst 1)), (20, .if_icmp .ne 7, 27, 0, 0, 0, []), (23, e0 (.iconst 1))]),
  (100000, [(24, .goto 4, 28, 0, 0, 0, []), (27, e0 (.iconst 0)), (28, e0 .ireturn)])]
def in_143 : MI := (⟨"HarbourTugsModel", "isOf", "(II)Z"⟩, prog_9_method_30_code, 3, some .boolean, 2, 0, 0, 43, es_143)
-- 144: HarbourTugsModel comes (III)Z
def es_144 : List (Nat × List (Nat × Ent)) := [(17, [(0, e0 (.iload_n 3)), (1, e0 (.aload_n 0)), (2, e0 (.iload_n 2)), (3, e0 (.iconst 3)), (4, .invokevirtual 62, 118, 2, 72, 0, [40147, 10008, 40150, 40149, 27]), (7, e0 .iadd), (8, e0 (.istore 4)), (10, e0 (.aload_n 0)), (11, e0 (.iload_n 1)), (12, e0 (.bipush 6)), (14, .invokevirtual 97, 117, 2, 72, 0, [40203, 10008, 40206, 40205, 34])]),
  (35, [(17, e0 (.istore 5)), (19, e0 (.iconst 0)), (20, e0 (.istore 6)), (22, e0 (.iconst (-1))), (23, e0 (.istore 7)), (25, e0 (.iconst 0)), (26, e0 (.istore 8)), (28, e0 (.iload 8)), (30, e0 .i2l), (31, e0 (.aload_n 0)), (32, .getfield 7, 7, 0, 2220, 0, [40056])]),
  (55, [(35, e0 (.bipush 65)), (37, e0 .laload), (38, e0 .lcmp), (39, .ifCond .ge 113, 152, 0, 0, 0, []), (42, e0 (.aload_n 0)), (43, e0 (.iload 8)), (45, e0 (.iload_n 1)), (46, .invokevirtual 120, 143, 2, 72, 0, [50029, 10008, 50032, 50031, 47]), (49, .ifCond .eq 46, 95, 0, 0, 0, []), (52, e0 (.aload_n 0)), (53, e0 (.iload 8))]),
  (76, [(55, .invokevirtual 124, 142, 1, 72, 0, [50002, 10008, 50005, 50004, 41]), (58, e0 (.iload_n 3)), (59, .if_icmp .ge 36, 95, 0, 0, 0, []), (62, e0 (.aload_n 0)), (63, e0 (.iload 8)), (65, .invokevirtual 124, 142, 1, 72, 0, [50002, 10008, 50005, 50004, 41]), (68, e0 (.iconst 1)), (69, e0 .iadd), (70, e0 (.iload 6)), (72, .if_icmp .le 23, 95, 0, 0, 0, []), (75, e0 (.aload_n 0))]),
  (96, [(76, e0 (.iload 8)), (78, .invokevirtual 124, 142, 1, 72, 0, [50002, 10008, 50005, 50004, 41]), (81, e0 (.iconst 1)), (82, e0 .iadd), (83, e0 (.istore 6)), (85, e0 (.aload_n 0)), (86, e0 (.iload 8)), (88, e0 (.bipush 6)), (90, .invokevirtual 62, 118, 2, 72, 0, [40147, 10008, 40150, 40149, 27]), (93, e0 (.istore 5)), (95, e0 (.aload_n 0))]),
  (120, [(96, e0 (.iload 8)), (98, e0 (.iload_n 1)), (99, .invokevirtual 120, 143, 2, 72, 0, [50029, 10008, 50032, 50031, 47]), (102, .ifCond .eq 44, 146, 0, 0, 0, []), (105, e0 (.aload_n 0)), (106, e0 (.iload 8)), (108, e0 (.bipush 7)), (110, .invokevirtual 62, 118, 2, 72, 0, [40147, 10008, 40150, 40149, 27]), (113, e0 (.iload 4)), (115, .if_icmp .lt 31, 146, 0, 0, 0, []), (118, e0 (.iload 7))]),
  (144, [(120, .ifCond .lt 22, 142, 0, 0, 0, []), (123, e0 (.aload_n 0)), (124, e0 (.iload 8)), (126, e0 (.bipush 7)), (128, .invokevirtual 62, 118, 2, 72, 0, [40147, 10008, 40150, 40149, 27]), (131, e0 (.aload_n 0)), (132, e0 (.iload 7)), (134, e0 (.bipush 7)), (136, .invokevirtual 62, 118, 2, 72, 0, [40147, 10008, 40150, 40149, 27]), (139, .if_icmp .ge 7, 146, 0, 0, 0, []), (142, e0 (.iload 8))]),
  (166, [(144, e0 (.istore 7)), (146, e0 (.iinc 8 1)), (149, .goto (-121), 28, 0, 0, 0, []), (152, e0 (.iload 6)), (154, e0 (.aload_n 0)), (155, e0 (.iload 5)), (157, e0 (.aload_n 0)), (158, e0 (.iload_n 2)), (159, e0 (.iconst 5)), (160, .invokevirtual 62, 118, 2, 72, 0, [40147, 10008, 40150, 40149, 27]), (163, .invokevirtual 74, 127, 2, 72, 0, [40155, 10008, 40158, 40157, 28])]),
  (186, [(166, e0 .iadd), (167, e0 (.iload_n 3)), (168, .if_icmp .gt 44, 212, 0, 0, 0, []), (171, e0 (.iload 7)), (173, .ifCond .lt 35, 208, 0, 0, 0, []), (176, e0 (.iload 4)), (178, e0 (.aload_n 0)), (179, e0 (.aload_n 0)), (180, e0 (.iload_n 2)), (181, e0 (.bipush 6)), (183, .invokevirtual 62, 118, 2, 72, 0, [40147, 10008, 40150, 40149, 27])]),
  (208, [(186, e0 (.aload_n 0)), (187, e0 (.iload 7)), (189, e0 (.iconst 5)), (190, .invokevirtual 62, 118, 2, 72, 0, [40147, 10008, 40150, 40149, 27]), (193, .invokevirtual 74, 127, 2, 72, 0, [40155, 10008, 40158, 40157, 28]), (196, e0 .iadd), (197, e0 (.aload_n 0)), (198, e0 (.iload 7)), (200, e0 (.bipush 7)), (202, .invokevirtual 62, 118, 2, 72, 0, [40147, 10008, 40150, 40149, 27]), (205, .if_icmp .gt 7, 212, 0, 0, 0, [])]),
  (100000, [(208, e0 (.iconst 1)), (209, .goto 4, 213, 0, 0, 0, []), (212, e0 (.iconst 0)), (213, e0 .ireturn)])]
def in_144 : MI := (⟨"HarbourTugsModel", "comes", "(III)Z"⟩, prog_9_method_31_code, 9, some .boolean, 3, 0, 0, 65, es_144)
-- 145: HarbourTugsModel fails (IIII)Z
def es_145 : List (Nat × List (Nat × Ent)) := [(15, [(0, e0 (.iload 4)), (2, e0 (.aload_n 0)), (3, e0 (.iload_n 3)), (4, e0 (.iconst 3)), (5, .invokevirtual 62, 118, 2, 72, 0, [40147, 10008, 40150, 40149, 27]), (8, e0 .iadd), (9, e0 (.istore 5)), (11, e0 (.iload 4)), (13, e0 (.iload 5))]),
  (59, [(15, .invokestatic 128, 134, 2, 0, 0, [50006, 10008, 50008, 50007]), (18, e0 (.lstore 6)), (20, e0 (.iload_n 1)), (21, .tableswitch 120 5 8 #[31, 56, 80, 102], 141, 0, 31, 0, [52, 77, 101, 123]), (52, e0 (.aload_n 0)), (53, e0 (.iload_n 2)), (54, .invokevirtual 113, 135, 1, 72, 0, [40195, 10008, 40198, 40197, 32]), (57, e0 (.aload_n 0)), (58, e0 (.iload_n 2))]),
  (75, [(59, .invokevirtual 104, 136, 1, 72, 0, [40210, 10008, 40213, 40212, 35]), (62, e0 .lor), (63, e0 (.lload 6)), (65, e0 .land), (66, e0 (.lconst 0)), (67, e0 .lcmp), (68, .ifCond .eq 7, 75, 0, 0, 0, []), (71, e0 (.iconst 1)), (72, .goto 4, 76, 0, 0, 0, [])]),
  (87, [(75, e0 (.iconst 0)), (76, e0 .ireturn), (77, e0 (.aload_n 0)), (78, e0 (.iload_n 2)), (79, e0 (.aload_n 0)), (80, e0 (.iload_n 2)), (81, .invokevirtual 113, 135, 1, 72, 0, [40195, 10008, 40198, 40197, 32]), (84, e0 (.lload 6)), (86, e0 .lor)]),
  (103, [(87, e0 (.bipush 47)), (89, .invokevirtual 116, 137, 3, 72, 0, [40199, 10008, 40202, 40201, 33]), (92, .ifCond .ge 7, 99, 0, 0, 0, []), (95, e0 (.iconst 1)), (96, .goto 4, 100, 0, 0, 0, []), (99, e0 (.iconst 0)), (100, e0 .ireturn), (101, e0 (.aload_n 0)), (102, e0 (.iload_n 2))]),
  (121, [(103, e0 (.aload_n 0)), (104, e0 (.iload_n 2)), (105, .invokevirtual 113, 135, 1, 72, 0, [40195, 10008, 40198, 40197, 32]), (108, e0 (.lload 6)), (110, e0 .lor), (111, .invokevirtual 132, 141, 2, 72, 0, [50021, 10008, 50024, 50023, 45]), (114, .ifCond .ne 7, 121, 0, 0, 0, []), (117, e0 (.iconst 1)), (118, .goto 4, 122, 0, 0, 0, [])]),
  (136, [(121, e0 (.iconst 0)), (122, e0 .ireturn), (123, e0 (.aload_n 0)), (124, e0 (.iload_n 2)), (125, e0 (.bipush 7)), (127, .invokevirtual 97, 117, 2, 72, 0, [40203, 10008, 40206, 40205, 34]), (130, e0 (.iload 5)), (132, .if_icmp .ge 7, 139, 0, 0, 0, []), (135, e0 (.iconst 1))]),
  (152, [(136, .goto 4, 140, 0, 0, 0, []), (139, e0 (.iconst 0)), (140, e0 .ireturn), (141, e0 (.aload_n 0)), (142, e0 (.iload_n 2)), (143, e0 (.iload_n 3)), (144, e0 (.iload 4)), (146, .invokevirtual 136, 144, 3, 72, 0, [50025, 10008, 50028, 50027, 46]), (149, .ifCond .ne 7, 156, 0, 0, 0, [])]),
  (100000, [(152, e0 (.iconst 1)), (153, .goto 4, 157, 0, 0, 0, []), (156, e0 (.iconst 0)), (157, e0 .ireturn)])]
def in_145 : MI := (⟨"HarbourTugsModel", "fails", "(IIII)Z"⟩, prog_9_method_32_code, 8, some .boolean, 4, 0, 0, 93, es_145)
-- 146: HarbourTugsModel isBarred (II)Z
def es_146 : List (Nat × List (Nat × Ent)) := [(13, [(0, e0 (.iload_n 2)), (1, e0 (.aload_n 0)), (2, e0 (.iload_n 1)), (3, e0 (.iconst 3)), (4, .invokevirtual 62, 118, 2, 72, 0, [40147, 10008, 40150, 40149, 27]), (7, e0 .iadd), (8, e0 (.istore_n 3)), (9, e0 (.iconst 0)), (10, e0 (.istore 4)), (12, e0 (.iconst 0))]),
  (31, [(13, e0 (.istore 5)), (15, e0 (.iload 5)), (17, e0 .i2l), (18, e0 (.aload_n 0)), (19, .getfield 7, 7, 0, 2220, 0, [40056]), (22, e0 (.bipush 65)), (24, e0 .laload), (25, e0 .lcmp), (26, .ifCond .ge 128, 154, 0, 0, 0, []), (29, e0 (.iload 5))]),
  (52, [(31, e0 (.iload_n 1)), (32, .if_icmp .eq 116, 148, 0, 0, 0, []), (35, e0 (.aload_n 0)), (36, e0 (.iload 5)), (38, .invokevirtual 71, 125, 1, 72, 0, [40143, 10008, 40146, 40145, 26]), (41, .ifCond .eq 107, 148, 0, 0, 0, []), (44, e0 (.aload_n 0)), (45, e0 (.iload 5)), (47, e0 (.bipush 7)), (49, .invokevirtual 62, 118, 2, 72, 0, [40147, 10008, 40150, 40149, 27])]),
  (71, [(52, e0 (.iload_n 3)), (53, .if_icmp .ge 95, 148, 0, 0, 0, []), (56, e0 (.aload_n 0)), (57, e0 (.iload 5)), (59, .invokevirtual 124, 142, 1, 72, 0, [50002, 10008, 50005, 50004, 41]), (62, e0 (.iload_n 2)), (63, .if_icmp .lt 85, 148, 0, 0, 0, []), (66, e0 (.iconst 1)), (67, e0 (.aload_n 0)), (68, .getfield 20, 7, 4, 1008, 0, [40060])]),
  (85, [(71, e0 (.aload_n 0)), (72, e0 (.iload_n 1)), (73, e0 (.iconst 5)), (74, .invokevirtual 62, 118, 2, 72, 0, [40147, 10008, 40150, 40149, 27]), (77, e0 .iaload), (78, e0 .ishl), (79, e0 (.iconst 1)), (80, e0 (.aload_n 0)), (81, .getfield 20, 7, 4, 1008, 0, [40060]), (84, e0 (.aload_n 0))]),
  (101, [(85, e0 (.iload_n 1)), (86, e0 (.bipush 6)), (88, .invokevirtual 62, 118, 2, 72, 0, [40147, 10008, 40150, 40149, 27]), (91, e0 .iaload), (92, e0 .ishl), (93, e0 .ior), (94, e0 (.istore 6)), (96, e0 (.iconst 1)), (97, e0 (.aload_n 0)), (98, .getfield 20, 7, 4, 1008, 0, [40060])]),
  (116, [(101, e0 (.aload_n 0)), (102, e0 (.iload 5)), (104, e0 (.iconst 5)), (105, .invokevirtual 62, 118, 2, 72, 0, [40147, 10008, 40150, 40149, 27]), (108, e0 .iaload), (109, e0 .ishl), (110, e0 (.iconst 1)), (111, e0 (.aload_n 0)), (112, .getfield 20, 7, 4, 1008, 0, [40060]), (115, e0 (.aload_n 0))]),
  (135, [(116, e0 (.iload 5)), (118, e0 (.bipush 6)), (120, .invokevirtual 62, 118, 2, 72, 0, [40147, 10008, 40150, 40149, 27]), (123, e0 .iaload), (124, e0 .ishl), (125, e0 .ior), (126, e0 (.istore 7)), (128, e0 (.iload 4)), (130, .ifCond .ne 11, 141, 0, 0, 0, []), (133, e0 (.iload 6))]),
  (156, [(135, e0 (.iload 7)), (137, e0 .iand), (138, .ifCond .eq 7, 145, 0, 0, 0, []), (141, e0 (.iconst 1)), (142, .goto 4, 146, 0, 0, 0, []), (145, e0 (.iconst 0)), (146, e0 (.istore 4)), (148, e0 (.iinc 5 1)), (151, .goto (-136), 15, 0, 0, 0, []), (154, e0 (.iload 4))]),
  (100000, [(156, e0 .ireturn)])]
def in_146 : MI := (⟨"HarbourTugsModel", "isBarred", "(II)Z"⟩, prog_9_method_33_code, 8, some .boolean, 2, 0, 0, 43, es_146)
-- 147: HarbourTugsModel failsAlone (III)Z
def es_147 : List (Nat × List (Nat × Ent)) := [(13, [(0, e0 (.iload_n 3)), (1, e0 (.aload_n 0)), (2, e0 (.iload_n 2)), (3, e0 (.iconst 3)), (4, .invokevirtual 62, 118, 2, 72, 0, [40147, 10008, 40150, 40149, 27]), (7, e0 .iadd), (8, e0 (.istore 4)), (10, e0 (.iconst 0)), (11, e0 (.istore 5))]),
  (60, [(13, e0 (.iload_n 1)), (14, .lookupswitch 116 #[(1, 34), (2, 57), (9, 109)], 130, 0, 34, 0, [48, 71, 123]), (48, e0 (.iload_n 3)), (49, e0 (.aload_n 0)), (50, e0 (.iload_n 2)), (51, e0 (.iconst 2)), (52, .invokevirtual 62, 118, 2, 72, 0, [40147, 10008, 40150, 40149, 27]), (55, .if_icmp .lt 10, 65, 0, 0, 0, []), (58, e0 (.iload 4))]),
  (76, [(60, e0 (.bipush 48)), (62, .if_icmp .le 7, 69, 0, 0, 0, []), (65, e0 (.iconst 1)), (66, .goto 4, 70, 0, 0, 0, []), (69, e0 (.iconst 0)), (70, e0 .ireturn), (71, e0 (.iload_n 3)), (72, e0 (.istore 6)), (74, e0 (.iload 6))]),
  (95, [(76, e0 (.iload 4)), (78, .if_icmp .ge 42, 120, 0, 0, 0, []), (81, e0 (.iload 5)), (83, .ifCond .ne 24, 107, 0, 0, 0, []), (86, e0 (.aload_n 0)), (87, .getfield 7, 7, 0, 2220, 0, [40056]), (90, e0 (.iload 6)), (92, e0 (.bipush 12)), (94, e0 .irem)]),
  (108, [(95, e0 .laload), (96, e0 (.aload_n 0)), (97, e0 (.iload_n 2)), (98, e0 (.iconst 1)), (99, .invokevirtual 62, 118, 2, 72, 0, [40147, 10008, 40150, 40149, 27]), (102, e0 .i2l), (103, e0 .lcmp), (104, .ifCond .ge 7, 111, 0, 0, 0, []), (107, e0 (.iconst 1))]),
  (125, [(108, .goto 4, 112, 0, 0, 0, []), (111, e0 (.iconst 0)), (112, e0 (.istore 5)), (114, e0 (.iinc 6 1)), (117, .goto (-43), 74, 0, 0, 0, []), (120, e0 (.iload 5)), (122, e0 .ireturn), (123, e0 (.aload_n 0)), (124, e0 (.iload_n 2))]),
  (140, [(125, e0 (.iload_n 3)), (126, .invokevirtual 140, 146, 2, 72, 0, [40238, 10008, 50001, 50000, 40]), (129, e0 .ireturn), (130, e0 (.aload_n 0)), (131, .getfield 7, 7, 0, 2220, 0, [40056]), (134, e0 (.bipush 63)), (136, e0 .laload), (137, e0 (.iload_n 3)), (138, e0 (.iload 4))]),
  (100000, [(140, .invokestatic 128, 134, 2, 0, 0, [50006, 10008, 50008, 50007]), (143, e0 .land), (144, e0 (.lconst 0)), (145, e0 .lcmp), (146, .ifCond .eq 7, 153, 0, 0, 0, []), (149, e0 (.iconst 1)), (150, .goto 4, 154, 0, 0, 0, []), (153, e0 (.iconst 0)), (154, e0 .ireturn)])]
def in_147 : MI := (⟨"HarbourTugsModel", "failsAlone", "(III)Z"⟩, prog_9_method_34_code, 7, some .boolean, 3, 0, 0, 70, es_147)
-- 148: HarbourTugsModel failsTogether (IIII)Z
def es_148 : List (Nat × List (Nat × Ent)) := [(18, [(0, e0 (.iload_n 3)), (1, e0 (.aload_n 0)), (2, e0 (.iload_n 2)), (3, e0 (.iconst 3)), (4, .invokevirtual 62, 118, 2, 72, 0, [40147, 10008, 40150, 40149, 27]), (7, e0 .iadd), (8, e0 (.istore 5)), (10, e0 (.iconst 0)), (11, e0 (.istore 6)), (13, e0 (.iload_n 1)), (14, e0 (.iconst 4)), (15, .if_icmp .ne 74, 89, 0, 0, 0, [])]),
  (38, [(18, e0 (.iconst 0)), (19, e0 (.istore 7)), (21, e0 (.iconst 0)), (22, e0 (.istore 8)), (24, e0 (.iload 8)), (26, e0 .i2l), (27, e0 (.aload_n 0)), (28, .getfield 7, 7, 0, 2220, 0, [40056]), (31, e0 (.bipush 64)), (33, e0 .laload), (34, e0 .lcmp), (35, .ifCond .ge 43, 78, 0, 0, 0, [])]),
  (58, [(38, e0 (.iload 7)), (40, .ifCond .ne 25, 65, 0, 0, 0, []), (43, e0 (.iload 4)), (45, e0 (.iload 8)), (47, e0 .ishr), (48, e0 (.iconst 1)), (49, e0 .iand), (50, e0 (.iconst 1)), (51, .if_icmp .ne 18, 69, 0, 0, 0, []), (54, e0 (.aload_n 0)), (55, e0 (.iload 8)), (57, e0 (.iconst 2))]),
  (84, [(58, .invokevirtual 97, 117, 2, 72, 0, [40203, 10008, 40206, 40205, 34]), (61, e0 (.iconst 1)), (62, .if_icmp .ne 7, 69, 0, 0, 0, []), (65, e0 (.iconst 1)), (66, .goto 4, 70, 0, 0, 0, []), (69, e0 (.iconst 0)), (70, e0 (.istore 7)), (72, e0 (.iinc 8 1)), (75, .goto (-51), 24, 0, 0, 0, []), (78, e0 (.iload 7)), (80, .ifCond .ne 7, 87, 0, 0, 0, []), (83, e0 (.iconst 1))]),
  (107, [(84, .goto 4, 88, 0, 0, 0, []), (87, e0 (.iconst 0)), (88, e0 .ireturn), (89, e0 (.aload_n 0)), (90, e0 (.iload 4)), (92, .invokevirtual 143, 140, 1, 72, 0, [50013, 10008, 50016, 50015, 43]), (95, e0 (.istore 7)), (97, e0 (.iload_n 3)), (98, e0 (.istore 8)), (100, e0 (.iload 8)), (102, e0 (.iload 5)), (104, .if_icmp .ge 133, 237, 0, 0, 0, [])]),
  (130, [(107, e0 (.iload_n 1)), (108, e0 (.iconst 3)), (109, .if_icmp .ne 30, 139, 0, 0, 0, []), (112, e0 (.iload 6)), (114, .ifCond .ne 15, 129, 0, 0, 0, []), (117, e0 (.iload 7)), (119, e0 (.aload_n 0)), (120, e0 (.iload_n 2)), (121, e0 (.iload 8)), (123, .invokevirtual 94, 131, 2, 72, 0, [40182, 10008, 40185, 40184, 30]), (126, .if_icmp .ge 7, 133, 0, 0, 0, []), (129, e0 (.iconst 1))]),
  (152, [(130, .goto 4, 134, 0, 0, 0, []), (133, e0 (.iconst 0)), (134, e0 (.istore 6)), (136, .goto 95, 231, 0, 0, 0, []), (139, e0 (.iconst 0)), (140, e0 (.istore 9)), (142, e0 (.iconst 0)), (143, e0 (.istore 10)), (145, e0 (.iload 10)), (147, e0 .i2l), (148, e0 (.aload_n 0)), (149, .getfield 7, 7, 0, 2220, 0, [40056])]),
  (174, [(152, e0 (.bipush 64)), (154, e0 .laload), (155, e0 .lcmp), (156, .ifCond .ge 58, 214, 0, 0, 0, []), (159, e0 (.iload 9)), (161, .ifCond .ne 40, 201, 0, 0, 0, []), (164, e0 (.iload 4)), (166, e0 (.iload 10)), (168, e0 .ishr), (169, e0 (.iconst 1)), (170, e0 .iand), (171, .ifCond .ne 34, 205, 0, 0, 0, [])]),
  (201, [(174, e0 (.aload_n 0)), (175, e0 (.iload 10)), (177, .invokevirtual 113, 135, 1, 72, 0, [40195, 10008, 40198, 40197, 32]), (180, e0 (.iload 8)), (182, .invokestatic 100, 133, 2, 0, 0, [40207, 10008, 40209, 40208]), (185, .ifCond .ne 20, 205, 0, 0, 0, []), (188, e0 (.aload_n 0)), (189, e0 (.iload 10)), (191, e0 (.bipush 7)), (193, .invokevirtual 97, 117, 2, 72, 0, [40203, 10008, 40206, 40205, 34]), (196, e0 (.iload 8)), (198, .if_icmp .le 7, 205, 0, 0, 0, [])]),
  (228, [(201, e0 (.iconst 1)), (202, .goto 4, 206, 0, 0, 0, []), (205, e0 (.iconst 0)), (206, e0 (.istore 9)), (208, e0 (.iinc 10 1)), (211, .goto (-66), 145, 0, 0, 0, []), (214, e0 (.iload 6)), (216, .ifCond .ne 8, 224, 0, 0, 0, []), (219, e0 (.iload 9)), (221, .ifCond .ne 7, 228, 0, 0, 0, []), (224, e0 (.iconst 1)), (225, .goto 4, 229, 0, 0, 0, [])]),
  (253, [(228, e0 (.iconst 0)), (229, e0 (.istore 6)), (231, e0 (.iinc 8 1)), (234, .goto (-134), 100, 0, 0, 0, []), (237, e0 (.iload 6)), (239, .ifCond .eq 24, 263, 0, 0, 0, []), (242, e0 (.iload_n 1)), (243, e0 (.iconst 3)), (244, .if_icmp .eq 15, 259, 0, 0, 0, []), (247, e0 (.aload_n 0)), (248, .getfield 7, 7, 0, 2220, 0, [40056]), (251, e0 (.bipush 61))]),
  (100000, [(253, e0 .laload), (254, e0 (.lconst 1)), (255, e0 .lcmp), (256, .ifCond .ne 7, 263, 0, 0, 0, []), (259, e0 (.iconst 1)), (260, .goto 4, 264, 0, 0, 0, []), (263, e0 (.iconst 0)), (264, e0 .ireturn)])]
def in_148 : MI := (⟨"HarbourTugsModel", "failsTogether", "(IIII)Z"⟩, prog_9_method_35_code, 11, some .boolean, 2, 0, 0, 45, es_148)
-- 149: HarbourTugsModel failsBy (IIII)Z
def es_149 : List (Nat × List (Nat × Ent)) := [(16, [(0, e0 (.iload_n 1)), (1, e0 (.iconst 1)), (2, .if_icmp .eq 20, 22, 0, 0, 0, []), (5, e0 (.iload_n 1)), (6, e0 (.iconst 2)), (7, .if_icmp .eq 15, 22, 0, 0, 0, []), (10, e0 (.iload_n 1)), (11, e0 (.bipush 9)), (13, .if_icmp .eq 9, 22, 0, 0, 0, [])]),
  (30, [(16, e0 (.iload_n 1)), (17, e0 (.bipush 12)), (19, .if_icmp .ne 11, 30, 0, 0, 0, []), (22, e0 (.aload_n 0)), (23, e0 (.iload_n 1)), (24, e0 (.iload_n 2)), (25, e0 (.iload_n 3)), (26, .invokevirtual 146, 147, 3, 72, 0, [40234, 10008, 40237, 40236, 39]), (29, e0 .ireturn)]),
  (46, [(30, e0 (.iload_n 1)), (31, e0 (.iconst 3)), (32, .if_icmp .eq 14, 46, 0, 0, 0, []), (35, e0 (.iload_n 1)), (36, e0 (.iconst 4)), (37, .if_icmp .eq 9, 46, 0, 0, 0, []), (40, e0 (.iload_n 1)), (41, e0 (.bipush 10)), (43, .if_icmp .ne 13, 56, 0, 0, 0, [])]),
  (59, [(46, e0 (.aload_n 0)), (47, e0 (.iload_n 1)), (48, e0 (.iload_n 2)), (49, e0 (.iload_n 3)), (50, e0 (.iload 4)), (52, .invokevirtual 149, 148, 4, 72, 0, [50009, 10008, 50012, 50011, 42]), (55, e0 .ireturn), (56, e0 (.iconst 0)), (57, e0 (.istore 5))]),
  (73, [(59, e0 (.iconst 0)), (60, e0 (.istore 6)), (62, e0 (.iload 6)), (64, e0 .i2l), (65, e0 (.aload_n 0)), (66, .getfield 7, 7, 0, 2220, 0, [40056]), (69, e0 (.bipush 64)), (71, e0 .laload), (72, e0 .lcmp)]),
  (89, [(73, .ifCond .ge 44, 117, 0, 0, 0, []), (76, e0 (.iload 5)), (78, .ifCond .ne 26, 104, 0, 0, 0, []), (81, e0 (.iload 4)), (83, e0 (.iload 6)), (85, e0 .ishr), (86, e0 (.iconst 1)), (87, e0 .iand), (88, e0 (.iconst 1))]),
  (105, [(89, .if_icmp .ne 19, 108, 0, 0, 0, []), (92, e0 (.aload_n 0)), (93, e0 (.iload_n 1)), (94, e0 (.iload 6)), (96, e0 (.iload_n 2)), (97, e0 (.iload_n 3)), (98, .invokevirtual 153, 145, 4, 72, 0, [50017, 10008, 50020, 50019, 44]), (101, .ifCond .eq 7, 108, 0, 0, 0, []), (104, e0 (.iconst 1))]),
  (100000, [(105, .goto 4, 109, 0, 0, 0, []), (108, e0 (.iconst 0)), (109, e0 (.istore 5)), (111, e0 (.iinc 6 1)), (114, .goto (-52), 62, 0, 0, 0, []), (117, e0 (.iload 5)), (119, e0 .ireturn)])]
def in_149 : MI := (⟨"HarbourTugsModel", "failsBy", "(IIII)Z"⟩, prog_9_method_36_code, 7, some .boolean, 5, 0, 0, 120, es_149)
-- 150: HarbourTugsModel whyNot (III)I
def es_150 : List (Nat × List (Nat × Ent)) := [(10, [(0, e0 (.iconst 1)), (1, e0 (.istore 4)), (3, e0 (.iload 4)), (5, e0 (.bipush 13)), (7, .if_icmp .ge 21, 28, 0, 0, 0, [])]),
  (16, [(10, e0 (.aload_n 0)), (11, e0 (.iload 4)), (13, e0 (.iload_n 1)), (14, e0 (.iload_n 2)), (15, e0 (.iload_n 3))]),
  (30, [(16, .invokevirtual 156, 149, 4, 72, 0, [40230, 10008, 40233, 40232, 38]), (19, .ifCond .ne 9, 28, 0, 0, 0, []), (22, e0 (.iinc 4 1)), (25, .goto (-22), 3, 0, 0, 0, []), (28, e0 (.iload 4))]),
  (41, [(30, e0 (.bipush 13)), (32, .if_icmp .ne 7, 39, 0, 0, 0, []), (35, e0 (.iconst 0)), (36, .goto 5, 41, 0, 0, 0, []), (39, e0 (.iload 4))]),
  (100000, [(41, e0 .ireturn)])]
def in_150 : MI := (⟨"HarbourTugsModel", "whyNot", "(III)I"⟩, prog_9_method_37_code, 5, some .int, 6, 0, 0, 146, es_150)
-- 151: HarbourTugsModel isSet (I)Z
def es_151 : List (Nat × List (Nat × Ent)) := [(4, [(0, e0 (.iload_n 1)), (1, e0 .i2l), (2, e0 (.lconst 1)), (3, e0 (.lconst 1))]),
  (11, [(4, e0 (.aload_n 0)), (5, .getfield 7, 7, 0, 2220, 0, [40056]), (8, e0 (.bipush 64)), (10, e0 .laload)]),
  (15, [(11, e0 .l2i), (12, e0 .lshl), (13, e0 (.lconst 1)), (14, e0 .lsub)]),
  (100000, [(15, .invokestatic 46, 115, 3, 0, 0, [40117, 10008, 40119, 40118]), (18, e0 .ireturn)])]
def in_151 : MI := (⟨"HarbourTugsModel", "isSet", "(I)Z"⟩, prog_9_method_38_code, 2, some .boolean, 1, 0, 0, 25, es_151)
-- 152: HarbourTugsModel may (III)I
def es_152 : List (Nat × List (Nat × Ent)) := [(9, [(0, e0 (.aload_n 0)), (1, e0 (.iload_n 1)), (2, .invokevirtual 91, 120, 1, 72, 0, [40178, 10008, 40181, 40180, 29]), (5, .ifCond .eq 18, 23, 0, 0, 0, []), (8, e0 (.iload_n 2))]),
  (20, [(9, .invokestatic 54, 116, 1, 0, 0, [40125, 10008, 40127, 40126]), (12, .ifCond .eq 11, 23, 0, 0, 0, []), (15, e0 (.aload_n 0)), (16, e0 (.iload_n 3)), (17, .invokevirtual 159, 151, 1, 72, 0, [40222, 10008, 40225, 40224, 36])]),
  (27, [(20, .ifCond .ne 5, 25, 0, 0, 0, []), (23, e0 (.iconst (-1))), (24, e0 .ireturn), (25, e0 (.aload_n 0)), (26, e0 (.iload_n 1))]),
  (39, [(27, .invokevirtual 71, 125, 1, 72, 0, [40143, 10008, 40146, 40145, 26]), (30, .ifCond .eq 8, 38, 0, 0, 0, []), (33, e0 (.bipush (-2))), (35, .goto 10, 45, 0, 0, 0, []), (38, e0 (.aload_n 0))]),
  (100000, [(39, e0 (.iload_n 1)), (40, e0 (.iload_n 2)), (41, e0 (.iload_n 3)), (42, .invokevirtual 162, 150, 3, 72, 0, [40226, 10008, 40229, 40228, 37]), (45, e0 .ireturn)])]
def in_152 : MI := (⟨"HarbourTugsModel", "may", "(III)I"⟩, prog_9_method_39_code, 4, some .int, 7, 0, 0, 170, es_152)
-- 153: HarbourTugsModel lays (III)V
def es_153 : List (Nat × List (Nat × Ent)) := [(15, [(0, e0 (.aload_n 0)), (1, .getfield 7, 7, 0, 2220, 0, [40056]), (4, e0 (.sipush 130)), (7, e0 (.bipush 11)), (9, e0 (.iload_n 1)), (10, e0 .imul), (11, e0 .iadd), (12, e0 (.bipush 7)), (14, e0 .iadd)]),
  (29, [(15, e0 (.iload_n 2)), (16, e0 .i2l), (17, e0 .lastore), (18, e0 (.aload_n 0)), (19, .getfield 7, 7, 0, 2220, 0, [40056]), (22, e0 (.sipush 130)), (25, e0 (.bipush 11)), (27, e0 (.iload_n 1)), (28, e0 .imul)]),
  (41, [(29, e0 .iadd), (30, e0 (.bipush 8)), (32, e0 .iadd), (33, e0 (.iload_n 3)), (34, e0 .i2l), (35, e0 .lastore), (36, e0 (.iconst 0)), (37, e0 (.istore 4)), (39, e0 (.iload 4))]),
  (57, [(41, e0 .i2l), (42, e0 (.aload_n 0)), (43, .getfield 7, 7, 0, 2220, 0, [40056]), (46, e0 (.bipush 64)), (48, e0 .laload), (49, e0 .lcmp), (50, .ifCond .ge 54, 104, 0, 0, 0, []), (53, e0 (.aload_n 0)), (54, .getfield 7, 7, 0, 2220, 0, [40056])]),
  (70, [(57, e0 (.bipush 70)), (59, e0 (.bipush 10)), (61, e0 (.iload 4)), (63, e0 .imul), (64, e0 .iadd), (65, e0 (.bipush 8)), (67, e0 .iadd), (68, e0 .dup2), (69, e0 .laload)]),
  (82, [(70, e0 (.iload_n 3)), (71, e0 (.iload 4)), (73, e0 .ishr), (74, e0 (.iconst 1)), (75, e0 .iand), (76, e0 (.iconst 1)), (77, .if_icmp .ne 18, 95, 0, 0, 0, []), (80, e0 (.iload_n 2)), (81, e0 (.iload_n 2))]),
  (97, [(82, e0 (.aload_n 0)), (83, e0 (.iload_n 1)), (84, e0 (.iconst 3)), (85, .invokevirtual 62, 118, 2, 72, 0, [40147, 10008, 40150, 40149, 27]), (88, e0 .iadd), (89, .invokestatic 128, 134, 2, 0, 0, [50006, 10008, 50008, 50007]), (92, .goto 4, 96, 0, 0, 0, []), (95, e0 (.lconst 0)), (96, e0 .lor)]),
  (100000, [(97, e0 .lastore), (98, e0 (.iinc 4 1)), (101, .goto (-62), 39, 0, 0, 0, []), (104, e0 .return_)])]
def in_153 : MI := (⟨"HarbourTugsModel", "lays", "(III)V"⟩, prog_9_method_40_code, 5, none, 1, 0, 0, 22, es_153)
-- 154: HarbourTugsModel lay (III)I
def es_154 : List (Nat × List (Nat × Ent)) := [(9, [(0, e0 (.aload_n 0)), (1, e0 (.iload_n 1)), (2, e0 (.iload_n 2)), (3, e0 (.iload_n 3)), (4, .invokevirtual 166, 152, 3, 72, 0, [50037, 10008, 40221, 40219, 40220]), (7, e0 (.istore 4))]),
  (24, [(9, e0 (.iload 4)), (11, .ifCond .eq 16, 27, 0, 0, 0, []), (14, e0 (.iload 4)), (16, .ifCond .le 8, 24, 0, 0, 0, []), (19, e0 (.bipush (-2))), (21, .goto 5, 26, 0, 0, 0, [])]),
  (31, [(24, e0 (.iload 4)), (26, e0 .ireturn), (27, e0 (.aload_n 0)), (28, e0 (.iload_n 1)), (29, e0 (.iload_n 2)), (30, e0 (.iload_n 3))]),
  (42, [(31, .invokevirtual 169, 153, 3, 72, 0, [50038, 10008, 50041, 50040, 48]), (34, e0 (.aload_n 0)), (35, .getfield 7, 7, 0, 2220, 0, [40056]), (38, e0 (.bipush 66)), (40, e0 .dup2), (41, e0 .laload)]),
  (100000, [(42, e0 (.lconst 1)), (43, e0 .ladd), (44, e0 .lastore), (45, e0 (.iconst 0)), (46, e0 .ireturn)])]
def in_154 : MI := (⟨"HarbourTugsModel", "lay", "(III)I"⟩, prog_9_method_41_code, 5, some .int, 8, 0, 0, 193, es_154)
-- 155: HarbourTugsModel takes (II)I
def es_155 : List (Nat × List (Nat × Ent)) := [(17, [(0, e0 (.iconst 0)), (1, e0 (.istore_n 3)), (2, e0 (.aload_n 0)), (3, e0 (.iload_n 1)), (4, e0 (.bipush 7)), (6, .invokevirtual 62, 118, 2, 72, 0, [40147, 10008, 40150, 40149, 27]), (9, e0 (.iload_n 2)), (10, .if_icmp .ge 7, 17, 0, 0, 0, []), (13, e0 (.iload_n 2)), (14, .goto 10, 24, 0, 0, 0, [])]),
  (33, [(17, e0 (.aload_n 0)), (18, e0 (.iload_n 1)), (19, e0 (.bipush 7)), (21, .invokevirtual 62, 118, 2, 72, 0, [40147, 10008, 40150, 40149, 27]), (24, e0 (.istore 4)), (26, e0 (.iconst 0)), (27, e0 (.istore 5)), (29, e0 (.iload 5)), (31, e0 .i2l), (32, e0 (.aload_n 0))]),
  (53, [(33, .getfield 7, 7, 0, 2220, 0, [40056]), (36, e0 (.bipush 64)), (38, e0 .laload), (39, e0 .lcmp), (40, .ifCond .ge 67, 107, 0, 0, 0, []), (43, e0 (.aload_n 0)), (44, e0 (.iload_n 1)), (45, e0 (.iload 5)), (47, .invokevirtual 120, 143, 2, 72, 0, [50029, 10008, 50032, 50031, 47]), (50, .ifCond .eq 51, 101, 0, 0, 0, [])]),
  (69, [(53, e0 (.aload_n 0)), (54, .getfield 7, 7, 0, 2220, 0, [40056]), (57, e0 (.bipush 70)), (59, e0 (.bipush 10)), (61, e0 (.iload 5)), (63, e0 .imul), (64, e0 .iadd), (65, e0 (.bipush 8)), (67, e0 .iadd), (68, e0 .dup2)]),
  (86, [(69, e0 .laload), (70, e0 (.iload 4)), (72, e0 (.aload_n 0)), (73, e0 (.iload_n 1)), (74, .invokevirtual 124, 142, 1, 72, 0, [50002, 10008, 50005, 50004, 41]), (77, e0 (.iconst 1)), (78, e0 .iadd), (79, .invokestatic 128, 134, 2, 0, 0, [50006, 10008, 50008, 50007]), (82, .ldc2_w 111, 0, 0, 0, (-1), [40194]), (85, e0 .lxor)]),
  (99, [(86, e0 .land), (87, e0 .lastore), (88, e0 (.iload_n 3)), (89, e0 (.aload_n 0)), (90, e0 (.iload_n 1)), (91, .invokevirtual 124, 142, 1, 72, 0, [50002, 10008, 50005, 50004, 41]), (94, e0 (.iconst 1)), (95, e0 .iadd), (96, e0 (.iload 4)), (98, e0 .isub)]),
  (118, [(99, e0 .iadd), (100, e0 (.istore_n 3)), (101, e0 (.iinc 5 1)), (104, .goto (-75), 29, 0, 0, 0, []), (107, e0 (.aload_n 0)), (108, .getfield 7, 7, 0, 2220, 0, [40056]), (111, e0 (.sipush 130)), (114, e0 (.bipush 11)), (116, e0 (.iload_n 1)), (117, e0 .imul)]),
  (136, [(118, e0 .iadd), (119, e0 (.bipush 7)), (121, e0 .iadd), (122, .ldc2_w 89, 0, 0, 0, (-4), [40173]), (125, e0 .lastore), (126, e0 (.aload_n 0)), (127, .getfield 7, 7, 0, 2220, 0, [40056]), (130, e0 (.sipush 130)), (133, e0 (.bipush 11)), (135, e0 (.iload_n 1))]),
  (100000, [(136, e0 .imul), (137, e0 .iadd), (138, e0 (.bipush 8)), (140, e0 .iadd), (141, e0 (.lconst 0)), (142, e0 .lastore), (143, e0 (.iload_n 3)), (144, e0 .ireturn)])]
def in_155 : MI := (⟨"HarbourTugsModel", "takes", "(II)I"⟩, prog_9_method_42_code, 6, some .int, 3, 0, 0, 65, es_155)
-- 156: HarbourTugsModel off (I)I
def es_156 : List (Nat × List (Nat × Ent)) := [(9, [(0, e0 (.aload_n 0)), (1, e0 (.iload_n 1)), (2, .invokevirtual 91, 120, 1, 72, 0, [40178, 10008, 40181, 40180, 29]), (5, .ifCond .ne 5, 10, 0, 0, 0, []), (8, e0 (.iconst (-1)))]),
  (18, [(9, e0 .ireturn), (10, e0 (.aload_n 0)), (11, e0 (.iload_n 1)), (12, .invokevirtual 71, 125, 1, 72, 0, [40143, 10008, 40146, 40145, 26]), (15, .ifCond .ne 6, 21, 0, 0, 0, [])]),
  (25, [(18, e0 (.bipush (-2))), (20, e0 .ireturn), (21, e0 (.aload_n 0)), (22, e0 (.iload_n 1)), (23, e0 (.bipush 7))]),
  (32, [(25, .invokevirtual 62, 118, 2, 72, 0, [40147, 10008, 40150, 40149, 27]), (28, e0 (.istore_n 2)), (29, e0 (.aload_n 0)), (30, e0 (.iload_n 1)), (31, e0 (.iconst 0))]),
  (100000, [(32, .invokevirtual 173, 155, 2, 72, 0, [50046, 10008, 50049, 50048, 49]), (35, e0 .pop), (36, e0 (.iload_n 2)), (37, e0 .ireturn)])]
def in_156 : MI := (⟨"HarbourTugsModel", "off", "(I)I"⟩, prog_9_method_43_code, 3, some .int, 4, 0, 0, 90, es_156)
-- 157: HarbourTugsModel bits (I)I
def es_157 : List (Nat × List (Nat × Ent)) := [(5, [(0, e0 (.iconst 0)), (1, e0 (.istore_n 1)), (2, e0 (.iconst 0)), (3, e0 (.istore_n 2)), (4, e0 (.iload_n 2))]),
  (13, [(5, e0 (.bipush 8)), (7, .if_icmp .ge 17, 24, 0, 0, 0, []), (10, e0 (.iload_n 1)), (11, e0 (.iload_n 0)), (12, e0 (.iload_n 2))]),
  (18, [(13, e0 .ishr), (14, e0 (.iconst 1)), (15, e0 .iand), (16, e0 .iadd), (17, e0 (.istore_n 1))]),
  (100000, [(18, e0 (.iinc 2 1)), (21, .goto (-17), 4, 0, 0, 0, []), (24, e0 (.iload_n 1)), (25, e0 .ireturn)])]
def in_157 : MI := (⟨"HarbourTugsModel", "bits", "(I)I"⟩, prog_9_method_44_code, 3, some .int, 0, 0, 0, 0, es_157)
-- 158: HarbourTugsModel isBetter (II)Z
def es_158 : List (Nat × List (Nat × Ent)) := [(11, [(0, e0 (.iload_n 1)), (1, .invokestatic 176, 157, 1, 0, 0, [50062, 10008, 50064, 50063]), (4, e0 (.iload_n 2)), (5, .invokestatic 176, 157, 1, 0, 0, [50062, 10008, 50064, 50063]), (8, .if_icmp .eq 20, 28, 0, 0, 0, [])]),
  (22, [(11, e0 (.iload_n 1)), (12, .invokestatic 176, 157, 1, 0, 0, [50062, 10008, 50064, 50063]), (15, e0 (.iload_n 2)), (16, .invokestatic 176, 157, 1, 0, 0, [50062, 10008, 50064, 50063]), (19, .if_icmp .ge 7, 26, 0, 0, 0, [])]),
  (29, [(22, e0 (.iconst 1)), (23, .goto 4, 27, 0, 0, 0, []), (26, e0 (.iconst 0)), (27, e0 .ireturn), (28, e0 (.aload_n 0))]),
  (38, [(29, e0 (.iload_n 1)), (30, .invokevirtual 143, 140, 1, 72, 0, [50013, 10008, 50016, 50015, 43]), (33, e0 (.aload_n 0)), (34, e0 (.iload_n 2)), (35, .invokevirtual 143, 140, 1, 72, 0, [50013, 10008, 50016, 50015, 43])]),
  (100000, [(38, .if_icmp .ge 7, 45, 0, 0, 0, []), (41, e0 (.iconst 1)), (42, .goto 4, 46, 0, 0, 0, []), (45, e0 (.iconst 0)), (46, e0 .ireturn)])]
def in_158 : MI := (⟨"HarbourTugsModel", "isBetter", "(II)Z"⟩, prog_9_method_45_code, 3, some .boolean, 2, 0, 0, 45, es_158)
-- 159: HarbourTugsModel finds (I)Z
def es_159 : List (Nat × List (Nat × Ent)) := [(22, [(0, e0 (.aload_n 0)), (1, e0 (.iconst 0)), (2, .putfield 179, 7, 11, 0, 0, [40067]), (5, e0 (.iconst 0)), (6, e0 (.istore_n 2)), (7, e0 (.iload_n 2)), (8, e0 (.bipush 48)), (10, .if_icmp .ge 274, 284, 0, 0, 0, []), (13, e0 (.aload_n 0)), (14, .getfield 179, 7, 11, 0, 0, [40067]), (17, .ifCond .ne 267, 284, 0, 0, 0, []), (20, e0 (.aload_n 0)), (21, e0 (.iconst 1))]),
  (44, [(22, e0 (.iload_n 1)), (23, e0 (.iload_n 2)), (24, .invokevirtual 146, 147, 3, 72, 0, [40234, 10008, 40237, 40236, 39]), (27, .ifCond .ne 251, 278, 0, 0, 0, []), (30, e0 (.aload_n 0)), (31, e0 (.iconst 2)), (32, e0 (.iload_n 1)), (33, e0 (.iload_n 2)), (34, .invokevirtual 146, 147, 3, 72, 0, [40234, 10008, 40237, 40236, 39]), (37, .ifCond .ne 241, 278, 0, 0, 0, []), (40, e0 (.aload_n 0)), (41, e0 (.bipush 9)), (43, e0 (.iload_n 1))]),
  (67, [(44, e0 (.iload_n 2)), (45, .invokevirtual 146, 147, 3, 72, 0, [40234, 10008, 40237, 40236, 39]), (48, .ifCond .ne 230, 278, 0, 0, 0, []), (51, e0 (.aload_n 0)), (52, e0 (.bipush 12)), (54, e0 (.iload_n 1)), (55, e0 (.iload_n 2)), (56, .invokevirtual 146, 147, 3, 72, 0, [40234, 10008, 40237, 40236, 39]), (59, .ifCond .ne 219, 278, 0, 0, 0, []), (62, e0 (.iconst 0)), (63, e0 (.istore_n 3)), (64, e0 (.iconst 0)), (65, e0 (.istore 4))]),
  (87, [(67, e0 (.iload 4)), (69, e0 .i2l), (70, e0 (.aload_n 0)), (71, .getfield 7, 7, 0, 2220, 0, [40056]), (74, e0 (.bipush 64)), (76, e0 .laload), (77, e0 .lcmp), (78, .ifCond .ge 96, 174, 0, 0, 0, []), (81, e0 (.aload_n 0)), (82, e0 (.iconst 5)), (83, e0 (.iload 4)), (85, e0 (.iload_n 1)), (86, e0 (.iload_n 2))]),
  (112, [(87, .invokevirtual 153, 145, 4, 72, 0, [50017, 10008, 50020, 50019, 44]), (90, .ifCond .ne 59, 149, 0, 0, 0, []), (93, e0 (.aload_n 0)), (94, e0 (.bipush 8)), (96, e0 (.iload 4)), (98, e0 (.iload_n 1)), (99, e0 (.iload_n 2)), (100, .invokevirtual 153, 145, 4, 72, 0, [50017, 10008, 50020, 50019, 44]), (103, .ifCond .ne 46, 149, 0, 0, 0, []), (106, e0 (.aload_n 0)), (107, e0 (.bipush 6)), (109, e0 (.iload 4)), (111, e0 (.iload_n 1))]),
  (137, [(112, e0 (.iload_n 2)), (113, .invokevirtual 153, 145, 4, 72, 0, [50017, 10008, 50020, 50019, 44]), (116, .ifCond .ne 33, 149, 0, 0, 0, []), (119, e0 (.aload_n 0)), (120, e0 (.bipush 7)), (122, e0 (.iload 4)), (124, e0 (.iload_n 1)), (125, e0 (.iload_n 2)), (126, .invokevirtual 153, 145, 4, 72, 0, [50017, 10008, 50020, 50019, 44]), (129, .ifCond .ne 20, 149, 0, 0, 0, []), (132, e0 (.aload_n 0)), (133, e0 (.bipush 11)), (135, e0 (.iload 4))]),
  (161, [(137, e0 (.iload_n 1)), (138, e0 (.iload_n 2)), (139, .invokevirtual 153, 145, 4, 72, 0, [50017, 10008, 50020, 50019, 44]), (142, .ifCond .ne 7, 149, 0, 0, 0, []), (145, e0 (.iconst 1)), (146, .goto 4, 150, 0, 0, 0, []), (149, e0 (.iconst 0)), (150, e0 (.istore 5)), (152, e0 (.iload_n 3)), (153, e0 (.iload 5)), (155, .ifCond .eq 10, 165, 0, 0, 0, []), (158, e0 (.iconst 1)), (159, e0 (.iload 4))]),
  (185, [(161, e0 .ishl), (162, .goto 4, 166, 0, 0, 0, []), (165, e0 (.iconst 0)), (166, e0 .ior), (167, e0 (.istore_n 3)), (168, e0 (.iinc 4 1)), (171, .goto (-104), 67, 0, 0, 0, []), (174, e0 (.iconst 1)), (175, e0 (.istore 4)), (177, e0 (.iload 4)), (179, e0 (.iload_n 3)), (180, .if_icmp .gt 98, 278, 0, 0, 0, []), (183, e0 (.iload 4))]),
  (209, [(185, e0 (.iload_n 3)), (186, e0 (.iconst (-1))), (187, e0 .ixor), (188, e0 .iand), (189, .ifCond .ne 27, 216, 0, 0, 0, []), (192, e0 (.aload_n 0)), (193, .getfield 179, 7, 11, 0, 0, [40067]), (196, .ifCond .eq 16, 212, 0, 0, 0, []), (199, e0 (.aload_n 0)), (200, e0 (.iload 4)), (202, e0 (.aload_n 0)), (203, .getfield 179, 7, 11, 0, 0, [40067]), (206, .invokevirtual 183, 158, 2, 72, 0, [50058, 10008, 50061, 50060, 51])]),
  (233, [(209, .ifCond .eq 7, 216, 0, 0, 0, []), (212, e0 (.iconst 1)), (213, .goto 4, 217, 0, 0, 0, []), (216, e0 (.iconst 0)), (217, e0 (.istore 5)), (219, e0 (.iload 5)), (221, .ifCond .eq 51, 272, 0, 0, 0, []), (224, e0 (.aload_n 0)), (225, e0 (.iconst 3)), (226, e0 (.iload_n 1)), (227, e0 (.iload_n 2)), (228, e0 (.iload 4)), (230, .invokevirtual 149, 148, 4, 72, 0, [50009, 10008, 50012, 50011, 42])]),
  (255, [(233, .ifCond .ne 39, 272, 0, 0, 0, []), (236, e0 (.aload_n 0)), (237, e0 (.iconst 4)), (238, e0 (.iload_n 1)), (239, e0 (.iload_n 2)), (240, e0 (.iload 4)), (242, .invokevirtual 149, 148, 4, 72, 0, [50009, 10008, 50012, 50011, 42]), (245, .ifCond .ne 27, 272, 0, 0, 0, []), (248, e0 (.aload_n 0)), (249, e0 (.bipush 10)), (251, e0 (.iload_n 1)), (252, e0 (.iload_n 2)), (253, e0 (.iload 4))]),
  (285, [(255, .invokevirtual 149, 148, 4, 72, 0, [50009, 10008, 50012, 50011, 42]), (258, .ifCond .ne 14, 272, 0, 0, 0, []), (261, e0 (.aload_n 0)), (262, e0 (.iload 4)), (264, .putfield 179, 7, 11, 0, 0, [40067]), (267, e0 (.aload_n 0)), (268, e0 (.iload_n 2)), (269, .putfield 186, 7, 10, 0, 0, [40066]), (272, e0 (.iinc 4 1)), (275, .goto (-98), 177, 0, 0, 0, []), (278, e0 (.iinc 2 1)), (281, .goto (-274), 7, 0, 0, 0, []), (284, e0 (.aload_n 0))]),
  (100000, [(285, .getfield 179, 7, 11, 0, 0, [40067]), (288, .ifCond .le 7, 295, 0, 0, 0, []), (291, e0 (.iconst 1)), (292, .goto 4, 296, 0, 0, 0, []), (295, e0 (.iconst 0)), (296, e0 .ireturn)])]
def in_159 : MI := (⟨"HarbourTugsModel", "finds", "(I)Z"⟩, prog_9_method_46_code, 6, some .boolean, 5, 0, 0, 120, es_159)
-- 160: HarbourTugsModel best (II)I
def es_160 : List (Nat × List (Nat × Ent)) := [(10, [(0, e0 (.aload_n 0)), (1, e0 (.iload_n 1)), (2, .invokevirtual 91, 120, 1, 72, 0, [40178, 10008, 40181, 40180, 29]), (5, .ifCond .eq 13, 18, 0, 0, 0, []), (8, e0 (.iload_n 2)), (9, e0 .i2l)]),
  (20, [(10, e0 (.lconst 0)), (11, e0 (.lconst 1)), (12, .invokestatic 46, 115, 3, 0, 0, [40117, 10008, 40119, 40118]), (15, .ifCond .ne 5, 20, 0, 0, 0, []), (18, e0 (.iconst (-1))), (19, e0 .ireturn)]),
  (31, [(20, e0 (.aload_n 0)), (21, e0 (.iload_n 1)), (22, .invokevirtual 71, 125, 1, 72, 0, [40143, 10008, 40146, 40145, 26]), (25, .ifCond .eq 6, 31, 0, 0, 0, []), (28, e0 (.bipush (-2))), (30, e0 .ireturn)]),
  (44, [(31, e0 (.aload_n 0)), (32, e0 (.iload_n 1)), (33, .invokevirtual 189, 159, 1, 72, 0, [50054, 10008, 50057, 50056, 50]), (36, .ifCond .ne 8, 44, 0, 0, 0, []), (39, e0 (.bipush (-4))), (41, .goto 18, 59, 0, 0, 0, [])]),
  (56, [(44, e0 (.iload_n 2)), (45, .ifCond .ne 10, 55, 0, 0, 0, []), (48, e0 (.aload_n 0)), (49, .getfield 186, 7, 10, 0, 0, [40066]), (52, .goto 7, 59, 0, 0, 0, []), (55, e0 (.aload_n 0))]),
  (100000, [(56, .getfield 179, 7, 11, 0, 0, [40067]), (59, e0 .ireturn)])]
def in_160 : MI := (⟨"HarbourTugsModel", "best", "(II)I"⟩, prog_9_method_47_code, 3, some .int, 6, 0, 0, 145, es_160)
-- 161: HarbourTugsModel job (II)I
def es_161 : List (Nat × List (Nat × Ent)) := [(10, [(0, e0 (.aload_n 0)), (1, e0 (.iload_n 1)), (2, .invokevirtual 91, 120, 1, 72, 0, [40178, 10008, 40181, 40180, 29]), (5, .ifCond .eq 13, 18, 0, 0, 0, []), (8, e0 (.iload_n 2)), (9, e0 .i2l)]),
  (20, [(10, e0 (.lconst 0)), (11, e0 (.lconst 1)), (12, .invokestatic 46, 115, 3, 0, 0, [40117, 10008, 40119, 40118]), (15, .ifCond .ne 5, 20, 0, 0, 0, []), (18, e0 (.iconst (-1))), (19, e0 .ireturn)]),
  (33, [(20, e0 (.aload_n 0)), (21, e0 (.iload_n 1)), (22, .invokevirtual 71, 125, 1, 72, 0, [40143, 10008, 40146, 40145, 26]), (25, .ifCond .ne 8, 33, 0, 0, 0, []), (28, e0 (.bipush (-4))), (30, .goto 24, 54, 0, 0, 0, [])]),
  (44, [(33, e0 (.iload_n 2)), (34, .ifCond .ne 13, 47, 0, 0, 0, []), (37, e0 (.aload_n 0)), (38, e0 (.iload_n 1)), (39, e0 (.bipush 7)), (41, .invokevirtual 62, 118, 2, 72, 0, [40147, 10008, 40150, 40149, 27])]),
  (100000, [(44, .goto 10, 54, 0, 0, 0, []), (47, e0 (.aload_n 0)), (48, e0 (.iload_n 1)), (49, e0 (.bipush 8)), (51, .invokevirtual 62, 118, 2, 72, 0, [40147, 10008, 40150, 40149, 27]), (54, e0 .ireturn)])]
def in_161 : MI := (⟨"HarbourTugsModel", "job", "(II)I"⟩, prog_9_method_48_code, 3, some .int, 2, 0, 0, 46, es_161)
-- 162: HarbourTugsModel asides ()V
def es_162 : List (Nat × List (Nat × Ent)) := [(14, [(0, e0 (.iconst 0)), (1, e0 (.istore_n 1)), (2, e0 (.iload_n 1)), (3, e0 (.bipush 6)), (5, .if_icmp .ge 30, 35, 0, 0, 0, []), (8, e0 (.aload_n 0)), (9, .getfield 35, 7, 12, 2024, 0, [40068]), (12, e0 (.iload_n 1)), (13, e0 (.aload_n 0))]),
  (28, [(14, .getfield 7, 7, 0, 2220, 0, [40056]), (17, e0 (.bipush 70)), (19, e0 (.bipush 10)), (21, e0 (.iload_n 1)), (22, e0 .imul), (23, e0 .iadd), (24, e0 (.bipush 8)), (26, e0 .iadd), (27, e0 .laload)]),
  (44, [(28, e0 .lastore), (29, e0 (.iinc 1 1)), (32, .goto (-30), 2, 0, 0, 0, []), (35, e0 (.iconst 0)), (36, e0 (.istore_n 1)), (37, e0 (.iload_n 1)), (38, e0 (.bipush 8)), (40, .if_icmp .ge 63, 103, 0, 0, 0, []), (43, e0 (.aload_n 0))]),
  (60, [(44, .getfield 35, 7, 12, 2024, 0, [40068]), (47, e0 (.bipush 6)), (49, e0 (.iconst 2)), (50, e0 (.iload_n 1)), (51, e0 .imul), (52, e0 .iadd), (53, e0 (.aload_n 0)), (54, .getfield 7, 7, 0, 2220, 0, [40056]), (57, e0 (.sipush 130))]),
  (71, [(60, e0 (.bipush 11)), (62, e0 (.iload_n 1)), (63, e0 .imul), (64, e0 .iadd), (65, e0 (.bipush 7)), (67, e0 .iadd), (68, e0 .laload), (69, e0 .lastore), (70, e0 (.aload_n 0))]),
  (87, [(71, .getfield 35, 7, 12, 2024, 0, [40068]), (74, e0 (.bipush 7)), (76, e0 (.iconst 2)), (77, e0 (.iload_n 1)), (78, e0 .imul), (79, e0 .iadd), (80, e0 (.aload_n 0)), (81, .getfield 7, 7, 0, 2220, 0, [40056]), (84, e0 (.sipush 130))]),
  (100, [(87, e0 (.bipush 11)), (89, e0 (.iload_n 1)), (90, e0 .imul), (91, e0 .iadd), (92, e0 (.bipush 8)), (94, e0 .iadd), (95, e0 .laload), (96, e0 .lastore), (97, e0 (.iinc 1 1))]),
  (100000, [(100, .goto (-63), 37, 0, 0, 0, []), (103, e0 .return_)])]
def in_162 : MI := (⟨"HarbourTugsModel", "asides", "()V"⟩, prog_9_method_49_code, 2, none, 0, 0, 0, 0, es_162)
-- 163: HarbourTugsModel returns ()V
def es_163 : List (Nat × List (Nat × Ent)) := [(16, [(0, e0 (.iconst 0)), (1, e0 (.istore_n 1)), (2, e0 (.iload_n 1)), (3, e0 (.bipush 6)), (5, .if_icmp .ge 30, 35, 0, 0, 0, []), (8, e0 (.aload_n 0)), (9, .getfield 7, 7, 0, 2220, 0, [40056]), (12, e0 (.bipush 70)), (14, e0 (.bipush 10))]),
  (28, [(16, e0 (.iload_n 1)), (17, e0 .imul), (18, e0 .iadd), (19, e0 (.bipush 8)), (21, e0 .iadd), (22, e0 (.aload_n 0)), (23, .getfield 35, 7, 12, 2024, 0, [40068]), (26, e0 (.iload_n 1)), (27, e0 .laload)]),
  (44, [(28, e0 .lastore), (29, e0 (.iinc 1 1)), (32, .goto (-30), 2, 0, 0, 0, []), (35, e0 (.iconst 0)), (36, e0 (.istore_n 1)), (37, e0 (.iload_n 1)), (38, e0 (.bipush 8)), (40, .if_icmp .ge 63, 103, 0, 0, 0, []), (43, e0 (.aload_n 0))]),
  (59, [(44, .getfield 7, 7, 0, 2220, 0, [40056]), (47, e0 (.sipush 130)), (50, e0 (.bipush 11)), (52, e0 (.iload_n 1)), (53, e0 .imul), (54, e0 .iadd), (55, e0 (.bipush 7)), (57, e0 .iadd), (58, e0 (.aload_n 0))]),
  (71, [(59, .getfield 35, 7, 12, 2024, 0, [40068]), (62, e0 (.bipush 6)), (64, e0 (.iconst 2)), (65, e0 (.iload_n 1)), (66, e0 .imul), (67, e0 .iadd), (68, e0 .laload), (69, e0 .lastore), (70, e0 (.aload_n 0))]),
  (86, [(71, .getfield 7, 7, 0, 2220, 0, [40056]), (74, e0 (.sipush 130)), (77, e0 (.bipush 11)), (79, e0 (.iload_n 1)), (80, e0 .imul), (81, e0 .iadd), (82, e0 (.bipush 8)), (84, e0 .iadd), (85, e0 (.aload_n 0))]),
  (100, [(86, .getfield 35, 7, 12, 2024, 0, [40068]), (89, e0 (.bipush 7)), (91, e0 (.iconst 2)), (92, e0 (.iload_n 1)), (93, e0 .imul), (94, e0 .iadd), (95, e0 .laload), (96, e0 .lastore), (97, e0 (.iinc 1 1))]),
  (100000, [(100, .goto (-63), 37, 0, 0, 0, []), (103, e0 .return_)])]
def in_163 : MI := (⟨"HarbourTugsModel", "returns", "()V"⟩, prog_9_method_50_code, 2, none, 0, 0, 0, 0, es_163)
-- 164: HarbourTugsModel empties ()V
def es_164 : List (Nat × List (Nat × Ent)) := [(14, [(0, e0 (.iconst 0)), (1, e0 (.istore_n 1)), (2, e0 (.iload_n 1)), (3, e0 (.bipush 6)), (5, .if_icmp .ge 25, 30, 0, 0, 0, []), (8, e0 (.aload_n 0)), (9, .getfield 7, 7, 0, 2220, 0, [40056]), (12, e0 (.bipush 70))]),
  (24, [(14, e0 (.bipush 10)), (16, e0 (.iload_n 1)), (17, e0 .imul), (18, e0 .iadd), (19, e0 (.bipush 8)), (21, e0 .iadd), (22, e0 (.lconst 0)), (23, e0 .lastore)]),
  (38, [(24, e0 (.iinc 1 1)), (27, .goto (-25), 2, 0, 0, 0, []), (30, e0 (.iconst 0)), (31, e0 (.istore_n 1)), (32, e0 (.iload_n 1)), (33, e0 .i2l), (34, e0 (.aload_n 0)), (35, .getfield 7, 7, 0, 2220, 0, [40056])]),
  (54, [(38, e0 (.bipush 65)), (40, e0 .laload), (41, e0 .lcmp), (42, .ifCond .ge 45, 87, 0, 0, 0, []), (45, e0 (.aload_n 0)), (46, .getfield 7, 7, 0, 2220, 0, [40056]), (49, e0 (.sipush 130)), (52, e0 (.bipush 11))]),
  (65, [(54, e0 (.iload_n 1)), (55, e0 .imul), (56, e0 .iadd), (57, e0 (.bipush 7)), (59, e0 .iadd), (60, .ldc2_w 89, 0, 0, 0, (-4), [40173]), (63, e0 .lastore), (64, e0 (.aload_n 0))]),
  (79, [(65, .getfield 7, 7, 0, 2220, 0, [40056]), (68, e0 (.sipush 130)), (71, e0 (.bipush 11)), (73, e0 (.iload_n 1)), (74, e0 .imul), (75, e0 .iadd), (76, e0 (.bipush 8)), (78, e0 .iadd)]),
  (100000, [(79, e0 (.lconst 0)), (80, e0 .lastore), (81, e0 (.iinc 1 1)), (84, .goto (-52), 32, 0, 0, 0, []), (87, e0 .return_)])]
def in_164 : MI := (⟨"HarbourTugsModel", "empties", "()V"⟩, prog_9_method_51_code, 2, none, 0, 0, 0, 0, es_164)
-- 165: HarbourTugsModel waited (I)I
def es_165 : List (Nat × List (Nat × Ent)) := [(6, [(0, e0 (.iconst 0)), (1, e0 (.istore_n 2)), (2, e0 (.iconst 0)), (3, e0 (.istore_n 3)), (4, e0 (.iload_n 3)), (5, e0 (.iload_n 1))]),
  (16, [(6, .if_icmp .ge 46, 52, 0, 0, 0, []), (9, e0 (.iload_n 2)), (10, e0 (.aload_n 0)), (11, e0 (.iload_n 3)), (12, e0 (.iconst 4)), (13, .invokevirtual 62, 118, 2, 72, 0, [40147, 10008, 40150, 40149, 27])]),
  (26, [(16, e0 (.aload_n 0)), (17, e0 (.iload_n 3)), (18, .invokevirtual 71, 125, 1, 72, 0, [40143, 10008, 40146, 40145, 26]), (21, .ifCond .eq 13, 34, 0, 0, 0, []), (24, e0 (.aload_n 0)), (25, e0 (.iload_n 3))]),
  (38, [(26, e0 (.bipush 7)), (28, .invokevirtual 62, 118, 2, 72, 0, [40147, 10008, 40150, 40149, 27]), (31, .goto 5, 36, 0, 0, 0, []), (34, e0 (.bipush 60)), (36, e0 (.aload_n 0)), (37, e0 (.iload_n 3))]),
  (46, [(38, e0 (.iconst 2)), (39, .invokevirtual 62, 118, 2, 72, 0, [40147, 10008, 40150, 40149, 27]), (42, e0 .isub), (43, e0 .imul), (44, e0 .iadd), (45, e0 (.istore_n 2))]),
  (100000, [(46, e0 (.iinc 3 1)), (49, .goto (-45), 4, 0, 0, 0, []), (52, e0 (.iload_n 2)), (53, e0 .ireturn)])]
def in_165 : MI := (⟨"HarbourTugsModel", "waited", "(I)I"⟩, prog_9_method_52_code, 4, some .int, 2, 0, 0, 43, es_165)
-- 166: HarbourTugsModel ordered (II)I
def es_166 : List (Nat × List (Nat × Ent)) := [(12, [(0, e0 (.iconst 1)), (1, e0 (.istore_n 2)), (2, e0 (.iconst 2)), (3, e0 (.istore_n 3)), (4, e0 (.iload_n 3)), (5, e0 (.iload_n 0)), (6, .if_icmp .ge 13, 19, 0, 0, 0, []), (9, e0 (.iload_n 2)), (10, e0 (.iload_n 3)), (11, e0 .imul)]),
  (28, [(12, e0 (.istore_n 2)), (13, e0 (.iinc 3 1)), (16, .goto (-12), 4, 0, 0, 0, []), (19, e0 (.iload_n 1)), (20, e0 (.istore_n 3)), (21, e0 (.iconst 0)), (22, e0 (.istore 4)), (24, e0 (.iconst 0)), (25, e0 (.istore 5)), (27, e0 (.iconst 0))]),
  (43, [(28, e0 (.istore 6)), (30, e0 (.iload 6)), (32, e0 (.iload_n 0)), (33, .if_icmp .ge 106, 139, 0, 0, 0, []), (36, e0 (.iload_n 3)), (37, e0 (.iload_n 2)), (38, e0 .idiv), (39, e0 (.istore 7)), (41, e0 (.iload_n 3)), (42, e0 (.iload_n 2))]),
  (56, [(43, e0 .irem), (44, e0 (.istore_n 3)), (45, e0 (.iload 6)), (47, e0 (.iload_n 0)), (48, e0 (.iconst 1)), (49, e0 .isub), (50, .if_icmp .ge 14, 64, 0, 0, 0, []), (53, e0 (.iload_n 2)), (54, e0 (.iload_n 0)), (55, e0 (.iconst 1))]),
  (71, [(56, e0 .isub), (57, e0 (.iload 6)), (59, e0 .isub), (60, e0 .idiv), (61, .goto 4, 65, 0, 0, 0, []), (64, e0 (.iconst 1)), (65, e0 (.istore_n 2)), (66, e0 (.iconst 0)), (67, e0 (.istore 8)), (69, e0 (.iload 4))]),
  (89, [(71, e0 (.iload 8)), (73, e0 .ishr), (74, e0 (.iconst 1)), (75, e0 .iand), (76, e0 (.iconst 1)), (77, .if_icmp .eq 8, 85, 0, 0, 0, []), (80, e0 (.iload 7)), (82, .ifCond .le 30, 112, 0, 0, 0, []), (85, e0 (.iload 7)), (87, e0 (.iload 4))]),
  (104, [(89, e0 (.iload 8)), (91, e0 .ishr), (92, e0 (.iconst 1)), (93, e0 .iand), (94, e0 (.iconst 1)), (95, .if_icmp .ne 7, 102, 0, 0, 0, []), (98, e0 (.iconst 0)), (99, .goto 4, 103, 0, 0, 0, []), (102, e0 (.iconst 1)), (103, e0 .isub)]),
  (123, [(104, e0 (.istore 7)), (106, e0 (.iinc 8 1)), (109, .goto (-40), 69, 0, 0, 0, []), (112, e0 (.iload 4)), (114, e0 (.iconst 1)), (115, e0 (.iload 8)), (117, e0 .ishl), (118, e0 .ior), (119, e0 (.istore 4)), (121, e0 (.iload 5))]),
  (141, [(123, e0 (.iload 8)), (125, e0 (.iconst 3)), (126, e0 (.iload 6)), (128, e0 .imul), (129, e0 .ishl), (130, e0 .ior), (131, e0 (.istore 5)), (133, e0 (.iinc 6 1)), (136, .goto (-106), 30, 0, 0, 0, []), (139, e0 (.iload 5))]),
  (100000, [(141, e0 .ireturn)])]
def in_166 : MI := (⟨"HarbourTugsModel", "ordered", "(II)I"⟩, prog_9_method_53_code, 9, some .int, 0, 0, 0, 0, es_166)
-- 167: HarbourTugsModel plans (II)I
def es_167 : List (Nat × List (Nat × Ent)) := [(8, [(0, e0 (.iconst 0)), (1, e0 (.istore_n 3)), (2, e0 (.iconst 0)), (3, e0 (.istore 4)), (5, e0 (.iload 4)), (7, e0 (.iload_n 1))]),
  (17, [(8, .if_icmp .ge 46, 54, 0, 0, 0, []), (11, e0 (.iload_n 2)), (12, e0 (.iconst 3)), (13, e0 (.iload 4)), (15, e0 .imul), (16, e0 .ishr)]),
  (28, [(17, e0 (.bipush 7)), (19, e0 .iand), (20, e0 (.istore 5)), (22, e0 (.aload_n 0)), (23, e0 (.iload 5)), (25, .invokevirtual 189, 159, 1, 72, 0, [50054, 10008, 50057, 50056, 50])]),
  (39, [(28, .ifCond .eq 20, 48, 0, 0, 0, []), (31, e0 (.aload_n 0)), (32, e0 (.iload 5)), (34, e0 (.aload_n 0)), (35, .getfield 186, 7, 10, 0, 0, [40066]), (38, e0 (.aload_n 0))]),
  (55, [(39, .getfield 179, 7, 11, 0, 0, [40067]), (42, .invokevirtual 169, 153, 3, 72, 0, [50038, 10008, 50041, 50040, 48]), (45, e0 (.iinc 3 1)), (48, e0 (.iinc 4 1)), (51, .goto (-46), 5, 0, 0, 0, []), (54, e0 (.iload_n 3))]),
  (100000, [(55, e0 .ireturn)])]
def in_167 : MI := (⟨"HarbourTugsModel", "plans", "(II)I"⟩, prog_9_method_54_code, 6, some .int, 6, 0, 0, 145, es_167)
-- 168: HarbourTugsModel isMany (I)Z
def es_168 : List (Nat × List (Nat × Ent)) := [(9, [(0, e0 (.iload_n 1)), (1, e0 .i2l), (2, e0 (.lconst 1)), (3, .ldc2_w 83, 0, 0, 0, 4, [40170]), (6, .invokestatic 46, 115, 3, 0, 0, [40117, 10008, 40119, 40118])]),
  (18, [(9, .ifCond .eq 20, 29, 0, 0, 0, []), (12, e0 (.iload_n 1)), (13, e0 .i2l), (14, e0 (.aload_n 0)), (15, .getfield 7, 7, 0, 2220, 0, [40056])]),
  (26, [(18, e0 (.bipush 65)), (20, e0 .laload), (21, e0 .lcmp), (22, .ifCond .gt 7, 29, 0, 0, 0, []), (25, e0 (.iconst 1))]),
  (100000, [(26, .goto 4, 30, 0, 0, 0, []), (29, e0 (.iconst 0)), (30, e0 .ireturn)])]
def in_168 : MI := (⟨"HarbourTugsModel", "isMany", "(I)Z"⟩, prog_9_method_55_code, 2, some .boolean, 1, 0, 0, 25, es_168)
-- 169: HarbourTugsModel bestOrder (I)I
def es_169 : List (Nat × List (Nat × Ent)) := [(10, [(0, e0 (.iconst 1)), (1, e0 (.istore_n 2)), (2, e0 (.iconst 2)), (3, e0 (.istore_n 3)), (4, e0 (.iload_n 3)), (5, e0 (.iload_n 1)), (6, .if_icmp .gt 13, 19, 0, 0, 0, []), (9, e0 (.iload_n 2))]),
  (24, [(10, e0 (.iload_n 3)), (11, e0 .imul), (12, e0 (.istore_n 2)), (13, e0 (.iinc 3 1)), (16, .goto (-12), 4, 0, 0, 0, []), (19, e0 (.aload_n 0)), (20, .invokevirtual 192, 162, 0, 72, 0, [50081, 10008, 50084, 50083, 54]), (23, e0 (.iconst 0))]),
  (37, [(24, e0 (.istore_n 3)), (25, e0 (.aload_n 0)), (26, .ldc 195, 0, 0, 0, 999999, [50085]), (28, .putfield 196, 7, 13, 0, 0, [40069]), (31, e0 (.iconst 0)), (32, e0 (.istore 4)), (34, e0 (.iload 4)), (36, e0 (.iload_n 2))]),
  (53, [(37, .if_icmp .ge 78, 115, 0, 0, 0, []), (40, e0 (.iload_n 1)), (41, e0 (.iload 4)), (43, .invokestatic 199, 166, 2, 0, 0, [50086, 10008, 50088, 50087]), (46, e0 (.istore 5)), (48, e0 (.aload_n 0)), (49, .invokevirtual 202, 164, 0, 72, 0, [50089, 10008, 50092, 50091, 55]), (52, e0 (.aload_n 0))]),
  (67, [(53, e0 (.iload_n 1)), (54, e0 (.iload 5)), (56, .invokevirtual 205, 167, 2, 72, 0, [50093, 10008, 50096, 50095, 56]), (59, e0 .pop), (60, e0 (.aload_n 0)), (61, e0 (.iload_n 1)), (62, .invokevirtual 208, 165, 1, 72, 0, [50097, 10008, 50100, 50099, 57]), (65, e0 (.istore 6))]),
  (83, [(67, e0 (.iload 6)), (69, e0 (.aload_n 0)), (70, .getfield 196, 7, 13, 0, 0, [40069]), (73, .if_icmp .ge 8, 81, 0, 0, 0, []), (76, e0 (.iload 5)), (78, .goto 4, 82, 0, 0, 0, []), (81, e0 (.iload_n 3)), (82, e0 (.istore_n 3))]),
  (99, [(83, e0 (.aload_n 0)), (84, e0 (.iload 6)), (86, e0 (.aload_n 0)), (87, .getfield 196, 7, 13, 0, 0, [40069]), (90, .if_icmp .ge 8, 98, 0, 0, 0, []), (93, e0 (.iload 6)), (95, .goto 7, 102, 0, 0, 0, []), (98, e0 (.aload_n 0))]),
  (100000, [(99, .getfield 196, 7, 13, 0, 0, [40069]), (102, .putfield 196, 7, 13, 0, 0, [40069]), (105, e0 (.aload_n 0)), (106, .invokevirtual 211, 163, 0, 72, 0, [50101, 10008, 50104, 50103, 58]), (109, e0 (.iinc 4 1)), (112, .goto (-78), 34, 0, 0, 0, []), (115, e0 (.iload_n 3)), (116, e0 .ireturn)])]
def in_169 : MI := (⟨"HarbourTugsModel", "bestOrder", "(I)I"⟩, prog_9_method_56_code, 7, some .int, 7, 0, 0, 170, es_169)
-- 170: HarbourTugsModel order (II)I
def es_170 : List (Nat × List (Nat × Ent)) := [(10, [(0, e0 (.aload_n 0)), (1, e0 (.iload_n 1)), (2, .invokevirtual 214, 168, 1, 72, 0, [50073, 10008, 50076, 50075, 52]), (5, .ifCond .eq 8, 13, 0, 0, 0, []), (8, e0 (.iload_n 2)), (9, e0 (.iconst (-1)))]),
  (20, [(10, .if_icmp .ge 5, 15, 0, 0, 0, []), (13, e0 (.iconst (-1))), (14, e0 .ireturn), (15, e0 (.aload_n 0)), (16, e0 (.iload_n 1)), (17, .invokevirtual 217, 169, 1, 72, 0, [50077, 10008, 50080, 50079, 53])]),
  (32, [(20, e0 (.istore_n 3)), (21, e0 (.iload_n 2)), (22, .ifCond .ge 10, 32, 0, 0, 0, []), (25, e0 (.aload_n 0)), (26, .getfield 196, 7, 13, 0, 0, [40069]), (29, .goto 21, 50, 0, 0, 0, [])]),
  (40, [(32, e0 (.iload_n 2)), (33, e0 (.iload_n 1)), (34, .if_icmp .ge 14, 48, 0, 0, 0, []), (37, e0 (.iload_n 3)), (38, e0 (.iconst 3)), (39, e0 (.iload_n 2))]),
  (50, [(40, e0 .imul), (41, e0 .ishr), (42, e0 (.bipush 7)), (44, e0 .iand), (45, .goto 5, 50, 0, 0, 0, []), (48, e0 (.bipush (-4)))]),
  (100000, [(50, e0 .ireturn)])]
def in_170 : MI := (⟨"HarbourTugsModel", "order", "(II)I"⟩, prog_9_method_57_code, 4, some .int, 8, 0, 0, 196, es_170)
-- 171: HarbourTugsModel layOrder (I)I
def es_171 : List (Nat × List (Nat × Ent)) := [(10, [(0, e0 (.aload_n 0)), (1, e0 (.iload_n 1)), (2, .invokevirtual 214, 168, 1, 72, 0, [50073, 10008, 50076, 50075, 52]), (5, .ifCond .ne 5, 10, 0, 0, 0, []), (8, e0 (.iconst (-1))), (9, e0 .ireturn)]),
  (20, [(10, e0 (.aload_n 0)), (11, e0 (.iload_n 1)), (12, .invokevirtual 217, 169, 1, 72, 0, [50077, 10008, 50080, 50079, 53]), (15, e0 (.istore_n 2)), (16, e0 (.aload_n 0)), (17, .invokevirtual 202, 164, 0, 72, 0, [50089, 10008, 50092, 50091, 55])]),
  (28, [(20, e0 (.aload_n 0)), (21, e0 (.iload_n 1)), (22, e0 (.iload_n 2)), (23, .invokevirtual 205, 167, 2, 72, 0, [50093, 10008, 50096, 50095, 56]), (26, e0 (.istore_n 3)), (27, e0 (.aload_n 0))]),
  (37, [(28, .getfield 7, 7, 0, 2220, 0, [40056]), (31, e0 (.bipush 66)), (33, e0 .dup2), (34, e0 .laload), (35, e0 (.iload_n 3)), (36, e0 .i2l)]),
  (100000, [(37, e0 .ladd), (38, e0 .lastore), (39, e0 (.iload_n 3)), (40, e0 .ireturn)])]
def in_171 : MI := (⟨"HarbourTugsModel", "layOrder", "(I)I"⟩, prog_9_method_58_code, 4, some .int, 8, 0, 0, 196, es_171)
-- 172: HarbourTugsModel tries (II)I
def es_172 : List (Nat × List (Nat × Ent)) := [(9, [(0, e0 (.iconst 0)), (1, e0 (.istore_n 3)), (2, e0 (.iload_n 3)), (3, e0 (.iload_n 1)), (4, .if_icmp .ge 25, 29, 0, 0, 0, []), (7, e0 (.iload_n 2)), (8, e0 (.iload_n 3))]),
  (18, [(9, e0 .ishr), (10, e0 (.iconst 1)), (11, e0 .iand), (12, e0 (.iconst 1)), (13, .if_icmp .ne 10, 23, 0, 0, 0, []), (16, e0 (.aload_n 0)), (17, e0 (.iload_n 3))]),
  (31, [(18, e0 (.iconst 0)), (19, .invokevirtual 173, 155, 2, 72, 0, [50046, 10008, 50049, 50048, 49]), (22, e0 .pop), (23, e0 (.iinc 3 1)), (26, .goto (-24), 2, 0, 0, 0, []), (29, e0 (.iconst 0)), (30, e0 (.istore_n 3))]),
  (43, [(31, e0 (.iconst 0)), (32, e0 (.istore 4)), (34, e0 (.iload 4)), (36, e0 (.iload_n 1)), (37, .if_icmp .ge 44, 81, 0, 0, 0, []), (40, e0 (.aload_n 0)), (41, e0 (.iload 4))]),
  (59, [(43, .invokevirtual 71, 125, 1, 72, 0, [40143, 10008, 40146, 40145, 26]), (46, .ifCond .ne 29, 75, 0, 0, 0, []), (49, e0 (.aload_n 0)), (50, e0 (.iload 4)), (52, .invokevirtual 189, 159, 1, 72, 0, [50054, 10008, 50057, 50056, 50]), (55, .ifCond .eq 20, 75, 0, 0, 0, []), (58, e0 (.aload_n 0))]),
  (75, [(59, e0 (.iload 4)), (61, e0 (.aload_n 0)), (62, .getfield 186, 7, 10, 0, 0, [40066]), (65, e0 (.aload_n 0)), (66, .getfield 179, 7, 11, 0, 0, [40067]), (69, .invokevirtual 169, 153, 3, 72, 0, [50038, 10008, 50041, 50040, 48]), (72, e0 (.iinc 3 1))]),
  (100000, [(75, e0 (.iinc 4 1)), (78, .goto (-44), 34, 0, 0, 0, []), (81, e0 (.iload_n 3)), (82, e0 .ireturn)])]
def in_172 : MI := (⟨"HarbourTugsModel", "tries", "(II)I"⟩, prog_9_method_59_code, 5, some .int, 6, 0, 0, 145, es_172)
-- 173: HarbourTugsModel mends (I)V
def es_173 : List (Nat × List (Nat × Ent)) := [(15, [(0, e0 (.iconst 0)), (1, e0 (.istore_n 2)), (2, e0 (.iconst 0)), (3, e0 (.istore_n 3)), (4, e0 (.iload_n 3)), (5, e0 (.iload_n 1)), (6, .if_icmp .ge 27, 33, 0, 0, 0, []), (9, e0 (.iload_n 2)), (10, e0 (.aload_n 0)), (11, e0 (.iload_n 3)), (12, .invokevirtual 71, 125, 1, 72, 0, [40143, 10008, 40146, 40145, 26])]),
  (34, [(15, .ifCond .eq 9, 24, 0, 0, 0, []), (18, e0 (.iconst 1)), (19, e0 (.iload_n 3)), (20, e0 .ishl), (21, .goto 4, 25, 0, 0, 0, []), (24, e0 (.iconst 0)), (25, e0 .ior), (26, e0 (.istore_n 2)), (27, e0 (.iinc 3 1)), (30, .goto (-26), 4, 0, 0, 0, []), (33, e0 (.aload_n 0))]),
  (51, [(34, .invokevirtual 192, 162, 0, 72, 0, [50081, 10008, 50084, 50083, 54]), (37, e0 (.aload_n 0)), (38, e0 (.iconst (-1))), (39, .putfield 220, 7, 14, 0, 0, [40070]), (42, e0 (.iconst 0)), (43, e0 (.istore_n 3)), (44, e0 (.iload_n 3)), (45, e0 (.iconst 1)), (46, e0 (.iload_n 1)), (47, e0 .ishl), (48, .if_icmp .ge 167, 215, 0, 0, 0, [])]),
  (66, [(51, e0 (.iload_n 3)), (52, e0 (.iload_n 2)), (53, e0 (.iconst (-1))), (54, e0 .ixor), (55, e0 .iand), (56, .ifCond .ne 153, 209, 0, 0, 0, []), (59, e0 (.aload_n 0)), (60, e0 (.iload_n 1)), (61, e0 (.iload_n 3)), (62, .invokevirtual 223, 172, 2, 72, 0, [50118, 10008, 50121, 50120, 60]), (65, e0 .pop)]),
  (86, [(66, e0 (.iconst 0)), (67, e0 (.istore 4)), (69, e0 (.iconst 0)), (70, e0 (.istore 5)), (72, e0 (.iload 5)), (74, e0 (.iload_n 1)), (75, .if_icmp .ge 28, 103, 0, 0, 0, []), (78, e0 (.iload 4)), (80, e0 (.aload_n 0)), (81, e0 (.iload 5)), (83, .invokevirtual 71, 125, 1, 72, 0, [40143, 10008, 40146, 40145, 26])]),
  (108, [(86, .ifCond .eq 7, 93, 0, 0, 0, []), (89, e0 (.iconst 1)), (90, .goto 4, 94, 0, 0, 0, []), (93, e0 (.iconst 0)), (94, e0 .iadd), (95, e0 (.istore 4)), (97, e0 (.iinc 5 1)), (100, .goto (-28), 72, 0, 0, 0, []), (103, e0 (.aload_n 0)), (104, e0 (.iload_n 1)), (105, .invokevirtual 208, 165, 1, 72, 0, [50097, 10008, 50100, 50099, 57])]),
  (131, [(108, e0 (.istore 5)), (110, e0 (.iload 4)), (112, e0 (.aload_n 0)), (113, .getfield 220, 7, 14, 0, 0, [40070]), (116, .if_icmp .ne 18, 134, 0, 0, 0, []), (119, e0 (.iload_n 3)), (120, .invokestatic 176, 157, 1, 0, 0, [50062, 10008, 50064, 50063]), (123, e0 (.aload_n 0)), (124, .getfield 226, 7, 15, 0, 0, [40071]), (127, .if_icmp .ne 7, 134, 0, 0, 0, []), (130, e0 (.iconst 1))]),
  (155, [(131, .goto 4, 135, 0, 0, 0, []), (134, e0 (.iconst 0)), (135, e0 (.istore 6)), (137, e0 (.iload 4)), (139, e0 (.aload_n 0)), (140, .getfield 220, 7, 14, 0, 0, [40070]), (143, .if_icmp .gt 37, 180, 0, 0, 0, []), (146, e0 (.iload 4)), (148, e0 (.aload_n 0)), (149, .getfield 220, 7, 14, 0, 0, [40070]), (152, .if_icmp .ne 14, 166, 0, 0, 0, [])]),
  (180, [(155, e0 (.iload_n 3)), (156, .invokestatic 176, 157, 1, 0, 0, [50062, 10008, 50064, 50063]), (159, e0 (.aload_n 0)), (160, .getfield 226, 7, 15, 0, 0, [40071]), (163, .if_icmp .lt 17, 180, 0, 0, 0, []), (166, e0 (.iload 6)), (168, .ifCond .eq 37, 205, 0, 0, 0, []), (171, e0 (.iload 5)), (173, e0 (.aload_n 0)), (174, .getfield 229, 7, 16, 0, 0, [40072]), (177, .if_icmp .ge 28, 205, 0, 0, 0, [])]),
  (201, [(180, e0 (.aload_n 0)), (181, e0 (.iload 4)), (183, .putfield 220, 7, 14, 0, 0, [40070]), (186, e0 (.aload_n 0)), (187, e0 (.iload_n 3)), (188, .invokestatic 176, 157, 1, 0, 0, [50062, 10008, 50064, 50063]), (191, .putfield 226, 7, 15, 0, 0, [40071]), (194, e0 (.aload_n 0)), (195, e0 (.iload 5)), (197, .putfield 229, 7, 16, 0, 0, [40072]), (200, e0 (.aload_n 0))]),
  (100000, [(201, e0 (.iload_n 3)), (202, .putfield 232, 7, 17, 0, 0, [40073]), (205, e0 (.aload_n 0)), (206, .invokevirtual 211, 163, 0, 72, 0, [50101, 10008, 50104, 50103, 58]), (209, e0 (.iinc 3 1)), (212, .goto (-168), 44, 0, 0, 0, []), (215, e0 .return_)])]
def in_173 : MI := (⟨"HarbourTugsModel", "mends", "(I)V"⟩, prog_9_method_60_code, 7, none, 7, 0, 0, 169, es_173)
-- 174: HarbourTugsModel mended (II)I
def es_174 : List (Nat × List (Nat × Ent)) := [(10, [(0, e0 (.aload_n 0)), (1, e0 (.iload_n 1)), (2, .invokevirtual 214, 168, 1, 72, 0, [50073, 10008, 50076, 50075, 52]), (5, .ifCond .eq 15, 20, 0, 0, 0, []), (8, e0 (.iload_n 2)), (9, e0 .i2l)]),
  (22, [(10, e0 (.lconst 0)), (11, .ldc2_w 235, 0, 0, 0, 3, [50113]), (14, .invokestatic 46, 115, 3, 0, 0, [40117, 10008, 40119, 40118]), (17, .ifCond .ne 5, 22, 0, 0, 0, []), (20, e0 (.iconst (-1))), (21, e0 .ireturn)]),
  (32, [(22, e0 (.aload_n 0)), (23, e0 (.iload_n 1)), (24, .invokevirtual 237, 173, 1, 72, 0, [50114, 10008, 50117, 50116, 59]), (27, e0 (.iload_n 2)), (28, .ifCond .ne 10, 38, 0, 0, 0, []), (31, e0 (.aload_n 0))]),
  (44, [(32, .getfield 220, 7, 14, 0, 0, [40070]), (35, .goto 31, 66, 0, 0, 0, []), (38, e0 (.iload_n 2)), (39, e0 (.iconst 1)), (40, .if_icmp .ne 10, 50, 0, 0, 0, []), (43, e0 (.aload_n 0))]),
  (56, [(44, .getfield 226, 7, 15, 0, 0, [40071]), (47, .goto 19, 66, 0, 0, 0, []), (50, e0 (.iload_n 2)), (51, e0 (.iconst 2)), (52, .if_icmp .ne 10, 62, 0, 0, 0, []), (55, e0 (.aload_n 0))]),
  (100000, [(56, .getfield 229, 7, 16, 0, 0, [40072]), (59, .goto 7, 66, 0, 0, 0, []), (62, e0 (.aload_n 0)), (63, .getfield 232, 7, 17, 0, 0, [40073]), (66, e0 .ireturn)])]
def in_174 : MI := (⟨"HarbourTugsModel", "mended", "(II)I"⟩, prog_9_method_61_code, 3, some .int, 8, 0, 0, 195, es_174)
-- 175: HarbourTugsModel layMended (I)I
def es_175 : List (Nat × List (Nat × Ent)) := [(9, [(0, e0 (.aload_n 0)), (1, e0 (.iload_n 1)), (2, .invokevirtual 214, 168, 1, 72, 0, [50073, 10008, 50076, 50075, 52]), (5, .ifCond .ne 5, 10, 0, 0, 0, []), (8, e0 (.iconst (-1)))]),
  (16, [(9, e0 .ireturn), (10, e0 (.aload_n 0)), (11, e0 (.iload_n 1)), (12, .invokevirtual 237, 173, 1, 72, 0, [50114, 10008, 50117, 50116, 59]), (15, e0 (.aload_n 0))]),
  (24, [(16, .getfield 7, 7, 0, 2220, 0, [40056]), (19, e0 (.bipush 66)), (21, e0 .dup2), (22, e0 .laload), (23, e0 (.aload_n 0))]),
  (33, [(24, e0 (.iload_n 1)), (25, e0 (.aload_n 0)), (26, .getfield 232, 7, 17, 0, 0, [40073]), (29, .invokevirtual 223, 172, 2, 72, 0, [50118, 10008, 50121, 50120, 60]), (32, e0 .i2l)]),
  (100000, [(33, e0 .ladd), (34, e0 .lastore), (35, e0 (.aload_n 0)), (36, .getfield 220, 7, 14, 0, 0, [40070]), (39, e0 .ireturn)])]
def in_175 : MI := (⟨"HarbourTugsModel", "layMended", "(I)I"⟩, prog_9_method_62_code, 2, some .int, 8, 0, 0, 195, es_175)
-- 176: HarbourTugsModel goesOn (III)Z
def es_176 : List (Nat × List (Nat × Ent)) := [(11, [(0, e0 (.aload_n 0)), (1, e0 (.iload_n 1)), (2, e0 (.bipush 8)), (4, .invokevirtual 62, 118, 2, 72, 0, [40147, 10008, 40150, 40149, 27]), (7, e0 (.iconst 1)), (8, e0 (.iload_n 2)), (9, e0 .ishl), (10, e0 (.iconst (-1)))]),
  (23, [(11, e0 .ixor), (12, e0 .iand), (13, e0 (.istore 4)), (15, e0 (.aload_n 0)), (16, e0 (.iload_n 1)), (17, e0 (.bipush 7)), (19, .invokevirtual 62, 118, 2, 72, 0, [40147, 10008, 40150, 40149, 27]), (22, e0 (.iload_n 3))]),
  (39, [(23, .if_icmp .ge 12, 35, 0, 0, 0, []), (26, e0 (.iload 4)), (28, .ifCond .eq 7, 35, 0, 0, 0, []), (31, e0 (.iconst 1)), (32, .goto 4, 36, 0, 0, 0, []), (35, e0 (.iconst 0)), (36, e0 (.istore 5)), (38, e0 (.iload_n 3))]),
  (56, [(39, e0 (.istore 6)), (41, e0 (.iload 6)), (43, e0 (.aload_n 0)), (44, e0 (.iload_n 1)), (45, .invokevirtual 124, 142, 1, 72, 0, [50002, 10008, 50005, 50004, 41]), (48, .if_icmp .gt 39, 87, 0, 0, 0, []), (51, e0 (.iload 5)), (53, .ifCond .eq 25, 78, 0, 0, 0, [])]),
  (68, [(56, e0 (.iconst 2)), (57, e0 (.aload_n 0)), (58, e0 (.iload 4)), (60, .invokevirtual 143, 140, 1, 72, 0, [50013, 10008, 50016, 50015, 43]), (63, e0 .imul), (64, e0 (.aload_n 0)), (65, e0 (.iload_n 1)), (66, e0 (.iload 6))]),
  (87, [(68, .invokevirtual 94, 131, 2, 72, 0, [40182, 10008, 40185, 40184, 30]), (71, .if_icmp .lt 7, 78, 0, 0, 0, []), (74, e0 (.iconst 1)), (75, .goto 4, 79, 0, 0, 0, []), (78, e0 (.iconst 0)), (79, e0 (.istore 5)), (81, e0 (.iinc 6 1)), (84, .goto (-43), 41, 0, 0, 0, [])]),
  (100000, [(87, e0 (.iload 5)), (89, e0 .ireturn)])]
def in_176 : MI := (⟨"HarbourTugsModel", "goesOn", "(III)Z"⟩, prog_9_method_63_code, 7, some .boolean, 2, 0, 0, 45, es_176)
-- 177: HarbourTugsModel breaks (II)I
def es_177 : List (Nat × List (Nat × Ent)) := [(24, [(0, e0 (.aload_n 0)), (1, e0 (.iload_n 1)), (2, .invokevirtual 108, 119, 1, 72, 0, [40190, 10008, 40193, 40192, 31]), (5, .ifCond .eq 10, 15, 0, 0, 0, []), (8, e0 (.iload_n 2)), (9, .invokestatic 54, 116, 1, 0, 0, [40125, 10008, 40127, 40126]), (12, .ifCond .ne 5, 17, 0, 0, 0, []), (15, e0 (.iconst (-1))), (16, e0 .ireturn), (17, e0 (.aload_n 0)), (18, e0 (.iload_n 1)), (19, e0 (.bipush 7)), (21, .invokevirtual 97, 117, 2, 72, 0, [40203, 10008, 40206, 40205, 34])]),
  (45, [(24, e0 (.iload_n 2)), (25, .if_icmp .gt 6, 31, 0, 0, 0, []), (28, e0 (.bipush (-2))), (30, e0 .ireturn), (31, e0 (.iconst 0)), (32, e0 (.istore_n 3)), (33, e0 (.iconst 0)), (34, e0 (.istore 4)), (36, e0 (.iload 4)), (38, e0 .i2l), (39, e0 (.aload_n 0)), (40, .getfield 7, 7, 0, 2220, 0, [40056]), (43, e0 (.bipush 65))]),
  (70, [(45, e0 .laload), (46, e0 .lcmp), (47, .ifCond .ge 146, 193, 0, 0, 0, []), (50, e0 (.aload_n 0)), (51, e0 (.iload 4)), (53, e0 (.iload_n 1)), (54, .invokevirtual 120, 143, 2, 72, 0, [50029, 10008, 50032, 50031, 47]), (57, .ifCond .eq 130, 187, 0, 0, 0, []), (60, e0 (.aload_n 0)), (61, e0 (.iload 4)), (63, .invokevirtual 124, 142, 1, 72, 0, [50002, 10008, 50005, 50004, 41]), (66, e0 (.iload_n 2)), (67, .if_icmp .lt 120, 187, 0, 0, 0, [])]),
  (92, [(70, e0 (.aload_n 0)), (71, e0 (.iload 4)), (73, e0 (.iload_n 1)), (74, e0 (.iload_n 2)), (75, .invokevirtual 241, 176, 3, 72, 0, [50130, 10008, 50133, 50132, 61]), (78, .ifCond .eq 88, 166, 0, 0, 0, []), (81, e0 (.aload_n 0)), (82, .getfield 7, 7, 0, 2220, 0, [40056]), (85, e0 (.bipush 70)), (87, e0 (.bipush 10)), (89, e0 (.iload_n 1)), (90, e0 .imul), (91, e0 .iadd)]),
  (113, [(92, e0 (.bipush 8)), (94, e0 .iadd), (95, e0 .dup2), (96, e0 .laload), (97, e0 (.iload_n 2)), (98, e0 (.aload_n 0)), (99, e0 (.iload 4)), (101, .invokevirtual 124, 142, 1, 72, 0, [50002, 10008, 50005, 50004, 41]), (104, e0 (.iconst 1)), (105, e0 .iadd), (106, .invokestatic 128, 134, 2, 0, 0, [50006, 10008, 50008, 50007]), (109, .ldc2_w 111, 0, 0, 0, (-1), [40194]), (112, e0 .lxor)]),
  (132, [(113, e0 .land), (114, e0 .lastore), (115, e0 (.aload_n 0)), (116, .getfield 7, 7, 0, 2220, 0, [40056]), (119, e0 (.bipush 68)), (121, e0 .dup2), (122, e0 .laload), (123, e0 (.aload_n 0)), (124, e0 (.iload 4)), (126, .invokevirtual 124, 142, 1, 72, 0, [50002, 10008, 50005, 50004, 41]), (129, e0 (.iconst 1)), (130, e0 .iadd), (131, e0 (.iload_n 2))]),
  (152, [(132, e0 .isub), (133, e0 .i2l), (134, e0 .ladd), (135, e0 .lastore), (136, e0 (.aload_n 0)), (137, .getfield 7, 7, 0, 2220, 0, [40056]), (140, e0 (.sipush 130)), (143, e0 (.bipush 11)), (145, e0 (.iload 4)), (147, e0 .imul), (148, e0 .iadd), (149, e0 (.bipush 8)), (151, e0 .iadd)]),
  (172, [(152, e0 .dup2), (153, e0 .laload), (154, e0 (.lconst 1)), (155, e0 (.iload_n 1)), (156, e0 .lshl), (157, .ldc2_w 111, 0, 0, 0, (-1), [40194]), (160, e0 .lxor), (161, e0 .land), (162, e0 .lastore), (163, .goto 24, 187, 0, 0, 0, []), (166, e0 (.aload_n 0)), (167, .getfield 7, 7, 0, 2220, 0, [40056]), (170, e0 (.bipush 68))]),
  (194, [(172, e0 .dup2), (173, e0 .laload), (174, e0 (.aload_n 0)), (175, e0 (.iload 4)), (177, e0 (.iload_n 2)), (178, .invokevirtual 173, 155, 2, 72, 0, [50046, 10008, 50049, 50048, 49]), (181, e0 .i2l), (182, e0 .ladd), (183, e0 .lastore), (184, e0 (.iinc 3 1)), (187, e0 (.iinc 4 1)), (190, .goto (-154), 36, 0, 0, 0, []), (193, e0 (.aload_n 0))]),
  (214, [(194, .getfield 7, 7, 0, 2220, 0, [40056]), (197, e0 (.bipush 70)), (199, e0 (.bipush 10)), (201, e0 (.iload_n 1)), (202, e0 .imul), (203, e0 .iadd), (204, e0 (.bipush 7)), (206, e0 .iadd), (207, e0 (.iload_n 2)), (208, e0 .i2l), (209, e0 .lastore), (210, e0 (.aload_n 0)), (211, .getfield 7, 7, 0, 2220, 0, [40056])]),
  (232, [(214, e0 (.bipush 70)), (216, e0 (.bipush 10)), (218, e0 (.iload_n 1)), (219, e0 .imul), (220, e0 .iadd), (221, e0 (.bipush 9)), (223, e0 .iadd), (224, e0 .dup2), (225, e0 .laload), (226, e0 (.iconst 0)), (227, e0 (.iload_n 2)), (228, .invokestatic 128, 134, 2, 0, 0, [50006, 10008, 50008, 50007]), (231, e0 .land)]),
  (100000, [(232, e0 .lastore), (233, e0 (.aload_n 0)), (234, .getfield 7, 7, 0, 2220, 0, [40056]), (237, e0 (.bipush 67)), (239, e0 .dup2), (240, e0 .laload), (241, e0 (.iload_n 3)), (242, e0 .i2l), (243, e0 .ladd), (244, e0 .lastore), (245, e0 (.iload_n 3)), (246, e0 .ireturn)])]
def in_177 : MI := (⟨"HarbourTugsModel", "breaks", "(II)I"⟩, prog_9_method_64_code, 5, some .int, 4, 0, 0, 90, es_177)
-- 178: HarbourTugsModel mend (I)I
def es_178 : List (Nat × List (Nat × Ent)) := [(10, [(0, e0 (.aload_n 0)), (1, e0 (.iload_n 1)), (2, .invokevirtual 108, 119, 1, 72, 0, [40190, 10008, 40193, 40192, 31]), (5, .ifCond .ne 5, 10, 0, 0, 0, []), (8, e0 (.iconst (-1))), (9, e0 .ireturn)]),
  (22, [(10, e0 (.aload_n 0)), (11, e0 (.iload_n 1)), (12, e0 (.bipush 7)), (14, .invokevirtual 97, 117, 2, 72, 0, [40203, 10008, 40206, 40205, 34]), (17, e0 (.bipush 48)), (19, .if_icmp .ne 7, 26, 0, 0, 0, [])]),
  (32, [(22, e0 (.iconst 0)), (23, .goto 4, 27, 0, 0, 0, []), (26, e0 (.iconst 1)), (27, e0 (.istore_n 2)), (28, e0 (.aload_n 0)), (29, .getfield 7, 7, 0, 2220, 0, [40056])]),
  (41, [(32, e0 (.bipush 70)), (34, e0 (.bipush 10)), (36, e0 (.iload_n 1)), (37, e0 .imul), (38, e0 .iadd), (39, e0 (.bipush 7))]),
  (100000, [(41, e0 .iadd), (42, .ldc2_w 77, 0, 0, 0, 48, [40163]), (45, e0 .lastore), (46, e0 (.iload_n 2)), (47, e0 .ireturn)])]
def in_178 : MI := (⟨"HarbourTugsModel", "mend", "(I)I"⟩, prog_9_method_65_code, 3, some .int, 2, 0, 0, 46, es_178)
-- 179: HarbourTugsModel storm (II)I
def es_179 : List (Nat × List (Nat × Ent)) := [(19, [(0, e0 (.iload_n 1)), (1, .invokestatic 54, 116, 1, 0, 0, [40125, 10008, 40127, 40126]), (4, .ifCond .eq 15, 19, 0, 0, 0, []), (7, e0 (.iload_n 2)), (8, .invokestatic 54, 116, 1, 0, 0, [40125, 10008, 40127, 40126]), (11, .ifCond .eq 8, 19, 0, 0, 0, []), (14, e0 (.iload_n 1)), (15, e0 (.iload_n 2)), (16, .if_icmp .le 5, 21, 0, 0, 0, [])]),
  (30, [(19, e0 (.iconst (-1))), (20, e0 .ireturn), (21, e0 (.iconst 0)), (22, e0 (.istore_n 3)), (23, e0 (.iconst 0)), (24, e0 (.istore 4)), (26, e0 (.iload 4)), (28, e0 .i2l), (29, e0 (.aload_n 0))]),
  (49, [(30, .getfield 7, 7, 0, 2220, 0, [40056]), (33, e0 (.bipush 65)), (35, e0 .laload), (36, e0 .lcmp), (37, .ifCond .ge 61, 98, 0, 0, 0, []), (40, e0 (.aload_n 0)), (41, e0 (.iload 4)), (43, .invokevirtual 71, 125, 1, 72, 0, [40143, 10008, 40146, 40145, 26]), (46, .ifCond .eq 46, 92, 0, 0, 0, [])]),
  (67, [(49, e0 (.aload_n 0)), (50, e0 (.iload 4)), (52, e0 (.bipush 7)), (54, .invokevirtual 62, 118, 2, 72, 0, [40147, 10008, 40150, 40149, 27]), (57, e0 (.iload_n 2)), (58, .if_icmp .gt 34, 92, 0, 0, 0, []), (61, e0 (.aload_n 0)), (62, e0 (.iload 4)), (64, .invokevirtual 124, 142, 1, 72, 0, [50002, 10008, 50005, 50004, 41])]),
  (82, [(67, e0 (.iload_n 1)), (68, .if_icmp .lt 24, 92, 0, 0, 0, []), (71, e0 (.aload_n 0)), (72, .getfield 7, 7, 0, 2220, 0, [40056]), (75, e0 (.bipush 69)), (77, e0 .dup2), (78, e0 .laload), (79, e0 (.aload_n 0)), (80, e0 (.iload 4))]),
  (99, [(82, e0 (.iload_n 1)), (83, .invokevirtual 173, 155, 2, 72, 0, [50046, 10008, 50049, 50048, 49]), (86, e0 .i2l), (87, e0 .ladd), (88, e0 .lastore), (89, e0 (.iinc 3 1)), (92, e0 (.iinc 4 1)), (95, .goto (-69), 26, 0, 0, 0, []), (98, e0 (.aload_n 0))]),
  (113, [(99, .getfield 7, 7, 0, 2220, 0, [40056]), (102, e0 (.bipush 63)), (104, e0 .dup2), (105, e0 .laload), (106, e0 (.iload_n 1)), (107, e0 (.iload_n 2)), (108, e0 (.iconst 1)), (109, e0 .iadd), (110, .invokestatic 128, 134, 2, 0, 0, [50006, 10008, 50008, 50007])]),
  (125, [(113, e0 .lor), (114, e0 .lastore), (115, e0 (.aload_n 0)), (116, .getfield 7, 7, 0, 2220, 0, [40056]), (119, e0 (.bipush 67)), (121, e0 .dup2), (122, e0 .laload), (123, e0 (.iload_n 3)), (124, e0 .i2l)]),
  (100000, [(125, e0 .ladd), (126, e0 .lastore), (127, e0 (.iload_n 3)), (128, e0 .ireturn)])]
def in_179 : MI := (⟨"HarbourTugsModel", "storm", "(II)I"⟩, prog_9_method_66_code, 5, some .int, 4, 0, 0, 90, es_179)
-- 180: HarbourTugsModel hoursIn (J)I
def es_180 : List (Nat × List (Nat × Ent)) := [(7, [(0, e0 (.iconst 0)), (1, e0 (.istore_n 3)), (2, e0 (.iconst 0)), (3, e0 (.istore 4)), (5, e0 (.iload 4))]),
  (16, [(7, e0 (.bipush 48)), (9, .if_icmp .ge 26, 35, 0, 0, 0, []), (12, e0 (.iload_n 3)), (13, e0 (.lload_n 1)), (14, e0 (.iload 4))]),
  (27, [(16, .invokestatic 100, 133, 2, 0, 0, [40207, 10008, 40209, 40208]), (19, .ifCond .eq 7, 26, 0, 0, 0, []), (22, e0 (.iconst 1)), (23, .goto 4, 27, 0, 0, 0, []), (26, e0 (.iconst 0))]),
  (36, [(27, e0 .iadd), (28, e0 (.istore_n 3)), (29, e0 (.iinc 4 1)), (32, .goto (-27), 5, 0, 0, 0, []), (35, e0 (.iload_n 3))]),
  (100000, [(36, e0 .ireturn)])]
def in_180 : MI := (⟨"HarbourTugsModel", "hoursIn", "(J)I"⟩, prog_9_method_67_code, 5, some .int, 1, 0, 0, 22, es_180)
-- 181: HarbourTugsModel calm ()I
def es_181 : List (Nat × List (Nat × Ent)) := [(7, [(0, e0 (.aload_n 0)), (1, e0 (.aload_n 0)), (2, .getfield 7, 7, 0, 2220, 0, [40056]), (5, e0 (.bipush 63))]),
  (13, [(7, e0 .laload), (8, .invokevirtual 244, 180, 1, 72, 0, [50146, 10008, 50149, 50148, 62]), (11, e0 (.istore_n 1)), (12, e0 (.aload_n 0))]),
  (20, [(13, .getfield 7, 7, 0, 2220, 0, [40056]), (16, e0 (.bipush 63)), (18, e0 (.lconst 0)), (19, e0 .lastore)]),
  (100000, [(20, e0 (.iload_n 1)), (21, e0 .ireturn)])]
def in_181 : MI := (⟨"HarbourTugsModel", "calm", "()I"⟩, prog_9_method_68_code, 2, some .int, 2, 0, 0, 46, es_181)
-- 182: HarbourTugsModel priceRule (IIII)I
def es_182 : List (Nat × List (Nat × Ent)) := [(15, [(0, e0 (.iload_n 1)), (1, e0 .i2l), (2, e0 (.lconst 0)), (3, .ldc2_w 58, 0, 0, 0, 6, [40133]), (6, .invokestatic 46, 115, 3, 0, 0, [40117, 10008, 40119, 40118]), (9, .ifCond .eq 60, 69, 0, 0, 0, []), (12, e0 (.iload_n 2)), (13, e0 .i2l), (14, e0 (.lconst 0))]),
  (34, [(15, .ldc2_w 248, 0, 0, 0, 400, [50154]), (18, .invokestatic 46, 115, 3, 0, 0, [40117, 10008, 40119, 40118]), (21, .ifCond .eq 48, 69, 0, 0, 0, []), (24, e0 (.iload_n 3)), (25, e0 .i2l), (26, e0 (.lconst 0)), (27, e0 (.lconst 1)), (28, .invokestatic 46, 115, 3, 0, 0, [40117, 10008, 40119, 40118]), (31, .ifCond .eq 38, 69, 0, 0, 0, [])]),
  (54, [(34, e0 (.iload 4)), (36, e0 .i2l), (37, e0 (.iload_n 3)), (38, .ifCond .ne 9, 47, 0, 0, 0, []), (41, .ldc2_w 250, 0, 0, 0, (-1000), [50155]), (44, .goto 6, 50, 0, 0, 0, []), (47, .ldc2_w 252, 0, 0, 0, (-100), [50156]), (50, e0 (.iload_n 3)), (51, .ifCond .ne 9, 60, 0, 0, 0, [])]),
  (75, [(54, .ldc2_w 254, 0, 0, 0, 100000, [50157]), (57, .goto 6, 63, 0, 0, 0, []), (60, .ldc2_w 256, 0, 0, 0, 1000, [50158]), (63, .invokestatic 46, 115, 3, 0, 0, [40117, 10008, 40119, 40118]), (66, .ifCond .ne 5, 71, 0, 0, 0, []), (69, e0 (.iconst (-1))), (70, e0 .ireturn), (71, e0 (.aload_n 0)), (72, .getfield 258, 7, 5, 0, 0, [40061])]),
  (92, [(75, e0 (.bipush 12)), (77, .if_icmp .ne 6, 83, 0, 0, 0, []), (80, e0 (.bipush (-3))), (82, e0 .ireturn), (83, e0 (.aload_n 0)), (84, .getfield 23, 7, 6, 1014, 0, [40062]), (87, e0 (.aload_n 0)), (88, .getfield 258, 7, 5, 0, 0, [40061]), (91, e0 (.iload_n 1))]),
  (107, [(92, e0 .iastore), (93, e0 (.aload_n 0)), (94, .getfield 26, 7, 7, 1014, 0, [40063]), (97, e0 (.aload_n 0)), (98, .getfield 258, 7, 5, 0, 0, [40061]), (101, e0 (.iload_n 2)), (102, e0 .iastore), (103, e0 (.aload_n 0)), (104, .getfield 29, 7, 8, 1014, 0, [40064])]),
  (123, [(107, e0 (.aload_n 0)), (108, .getfield 258, 7, 5, 0, 0, [40061]), (111, e0 (.iload_n 3)), (112, e0 .iastore), (113, e0 (.aload_n 0)), (114, .getfield 32, 7, 9, 1014, 0, [40065]), (117, e0 (.aload_n 0)), (118, .getfield 258, 7, 5, 0, 0, [40061]), (121, e0 (.iload 4))]),
  (138, [(123, e0 .iastore), (124, e0 (.aload_n 0)), (125, e0 .dup), (126, .getfield 258, 7, 5, 0, 0, [40061]), (129, e0 (.iconst 1)), (130, e0 .iadd), (131, .putfield 258, 7, 5, 0, 0, [40061]), (134, e0 (.aload_n 0)), (135, .getfield 258, 7, 5, 0, 0, [40061])]),
  (100000, [(138, e0 .ireturn)])]
def in_182 : MI := (⟨"HarbourTugsModel", "priceRule", "(IIII)I"⟩, prog_9_method_69_code, 5, some .int, 1, 0, 0, 25, es_182)
-- 183: HarbourTugsModel passes (II)Z
def es_183 : List (Nat × List (Nat × Ent)) := [(16, [(0, e0 (.aload_n 0)), (1, e0 (.iload_n 2)), (2, e0 (.bipush 7)), (4, .invokevirtual 62, 118, 2, 72, 0, [40147, 10008, 40150, 40149, 27]), (7, e0 (.istore_n 3)), (8, e0 (.aload_n 0)), (9, .getfield 26, 7, 7, 1014, 0, [40063]), (12, e0 (.iload_n 1)), (13, e0 .iaload), (14, e0 (.istore 4))]),
  (65, [(16, e0 (.aload_n 0)), (17, .getfield 23, 7, 6, 1014, 0, [40062]), (20, e0 (.iload_n 1)), (21, e0 .iaload), (22, .tableswitch 146 0 5 #[38, 40, 57, 79, 103, 124], 168, 0, 38, 0, [60, 62, 79, 101, 125, 146]), (60, e0 (.iconst 1)), (61, e0 .ireturn), (62, e0 (.aload_n 0)), (63, e0 (.iload_n 2)), (64, e0 (.iconst 0))]),
  (85, [(65, .invokevirtual 62, 118, 2, 72, 0, [40147, 10008, 40150, 40149, 27]), (68, e0 (.iload 4)), (70, .if_icmp .lt 7, 77, 0, 0, 0, []), (73, e0 (.iconst 1)), (74, .goto 4, 78, 0, 0, 0, []), (77, e0 (.iconst 0)), (78, e0 .ireturn), (79, e0 (.aload_n 0)), (80, .getfield 7, 7, 0, 2220, 0, [40056]), (83, e0 (.bipush 12))]),
  (100, [(85, e0 (.iload_n 3)), (86, e0 .iadd), (87, e0 .laload), (88, e0 (.iload 4)), (90, e0 .i2l), (91, e0 .lcmp), (92, .ifCond .lt 7, 99, 0, 0, 0, []), (95, e0 (.iconst 1)), (96, .goto 4, 100, 0, 0, 0, []), (99, e0 (.iconst 0))]),
  (116, [(100, e0 .ireturn), (101, e0 (.iload_n 3)), (102, e0 (.bipush 24)), (104, e0 .irem), (105, e0 (.bipush 6)), (107, .if_icmp .lt 12, 119, 0, 0, 0, []), (110, e0 (.iload_n 3)), (111, e0 (.bipush 24)), (113, e0 .irem), (114, e0 (.bipush 20))]),
  (135, [(116, .if_icmp .lt 7, 123, 0, 0, 0, []), (119, e0 (.iconst 1)), (120, .goto 4, 124, 0, 0, 0, []), (123, e0 (.iconst 0)), (124, e0 .ireturn), (125, e0 (.aload_n 0)), (126, e0 (.iload_n 2)), (127, e0 (.bipush 8)), (129, .invokevirtual 62, 118, 2, 72, 0, [40147, 10008, 40150, 40149, 27]), (132, .invokestatic 176, 157, 1, 0, 0, [50062, 10008, 50064, 50063])]),
  (151, [(135, e0 (.iload 4)), (137, .if_icmp .lt 7, 144, 0, 0, 0, []), (140, e0 (.iconst 1)), (141, .goto 4, 145, 0, 0, 0, []), (144, e0 (.iconst 0)), (145, e0 .ireturn), (146, e0 (.aload_n 0)), (147, e0 (.aload_n 0)), (148, e0 (.iload_n 2)), (149, e0 (.bipush 8))]),
  (170, [(151, .invokevirtual 62, 118, 2, 72, 0, [40147, 10008, 40150, 40149, 27]), (154, .invokevirtual 143, 140, 1, 72, 0, [50013, 10008, 50016, 50015, 43]), (157, e0 (.iload 4)), (159, .if_icmp .lt 7, 166, 0, 0, 0, []), (162, e0 (.iconst 1)), (163, .goto 4, 167, 0, 0, 0, []), (166, e0 (.iconst 0)), (167, e0 .ireturn), (168, e0 (.iload_n 3)), (169, e0 (.aload_n 0))]),
  (100000, [(170, e0 (.iload_n 2)), (171, e0 (.iconst 2)), (172, .invokevirtual 62, 118, 2, 72, 0, [40147, 10008, 40150, 40149, 27]), (175, e0 .isub), (176, e0 (.iload 4)), (178, .if_icmp .lt 7, 185, 0, 0, 0, []), (181, e0 (.iconst 1)), (182, .goto 4, 186, 0, 0, 0, []), (185, e0 (.iconst 0)), (186, e0 .ireturn)])]
def in_183 : MI := (⟨"HarbourTugsModel", "passes", "(II)Z"⟩, prog_9_method_70_code, 5, some .boolean, 2, 0, 0, 45, es_183)
-- 184: HarbourTugsModel price (I)J
def es_184 : List (Nat × List (Nat × Ent)) := [(14, [(0, e0 (.aload_n 0)), (1, e0 (.iload_n 1)), (2, .invokevirtual 91, 120, 1, 72, 0, [40178, 10008, 40181, 40180, 29]), (5, .ifCond .ne 7, 12, 0, 0, 0, []), (8, .ldc2_w 261, 0, 0, 0, (-1000000001), [50163]), (11, e0 .lreturn), (12, e0 (.aload_n 0)), (13, e0 (.iload_n 1))]),
  (29, [(14, .invokevirtual 71, 125, 1, 72, 0, [40143, 10008, 40146, 40145, 26]), (17, .ifCond .ne 7, 24, 0, 0, 0, []), (20, .ldc2_w 263, 0, 0, 0, (-1000000002), [50164]), (23, e0 .lreturn), (24, e0 (.lconst 0)), (25, e0 (.lstore_n 2)), (26, e0 (.iconst 0)), (27, e0 (.istore 4))]),
  (45, [(29, e0 (.iload 4)), (31, e0 (.aload_n 0)), (32, .getfield 258, 7, 5, 0, 0, [40061]), (35, .if_icmp .ge 57, 92, 0, 0, 0, []), (38, e0 (.aload_n 0)), (39, e0 (.iload 4)), (41, e0 (.iload_n 1)), (42, .invokevirtual 265, 183, 2, 72, 0, [50165, 10008, 50168, 50167, 63])]),
  (60, [(45, .ifCond .eq 41, 86, 0, 0, 0, []), (48, e0 (.lload_n 2)), (49, e0 (.aload_n 0)), (50, .getfield 29, 7, 8, 1014, 0, [40064]), (53, e0 (.iload 4)), (55, e0 .iaload), (56, .ifCond .ne 14, 70, 0, 0, 0, []), (59, e0 (.aload_n 0))]),
  (75, [(60, .getfield 32, 7, 9, 1014, 0, [40065]), (63, e0 (.iload 4)), (65, e0 .iaload), (66, e0 .i2l), (67, .goto 17, 84, 0, 0, 0, []), (70, e0 (.lload_n 2)), (71, e0 (.aload_n 0)), (72, .getfield 32, 7, 9, 1014, 0, [40065])]),
  (86, [(75, e0 (.iload 4)), (77, e0 .iaload), (78, e0 .i2l), (79, e0 .lmul), (80, .ldc2_w 268, 0, 0, 0, 100, [50169]), (83, e0 .ldiv), (84, e0 .ladd), (85, e0 (.lstore_n 2))]),
  (100000, [(86, e0 (.iinc 4 1)), (89, .goto (-60), 29, 0, 0, 0, []), (92, e0 (.lload_n 2)), (93, e0 .lreturn)])]
def in_184 : MI := (⟨"HarbourTugsModel", "price", "(I)J"⟩, prog_9_method_71_code, 5, some .long, 3, 0, 0, 69, es_184)
-- 185: HarbourTugsModel pool (II)I
def es_185 : List (Nat × List (Nat × Ent)) := [(16, [(0, e0 (.iload_n 1)), (1, e0 .i2l), (2, e0 (.lconst 0)), (3, e0 (.lconst 1)), (4, .invokestatic 46, 115, 3, 0, 0, [40117, 10008, 40119, 40118]), (7, .ifCond .eq 15, 22, 0, 0, 0, []), (10, e0 (.iload_n 2)), (11, e0 .i2l), (12, e0 (.lconst 0)), (13, .ldc2_w 270, 0, 0, 0, 1000000, [50174])]),
  (32, [(16, .invokestatic 46, 115, 3, 0, 0, [40117, 10008, 40119, 40118]), (19, .ifCond .ne 5, 24, 0, 0, 0, []), (22, e0 (.iconst (-1))), (23, e0 .ireturn), (24, e0 (.lconst 0)), (25, e0 (.lstore_n 3)), (26, e0 (.lconst 0)), (27, e0 (.lstore 5)), (29, e0 (.iconst 0)), (30, e0 (.istore 7))]),
  (49, [(32, e0 (.iload 7)), (34, e0 .i2l), (35, e0 (.aload_n 0)), (36, .getfield 7, 7, 0, 2220, 0, [40056]), (39, e0 (.bipush 64)), (41, e0 .laload), (42, e0 .lcmp), (43, .ifCond .ge 58, 101, 0, 0, 0, []), (46, e0 (.aload_n 0)), (47, e0 (.iload 7))]),
  (66, [(49, e0 (.iconst 1)), (50, .invokevirtual 97, 117, 2, 72, 0, [40203, 10008, 40206, 40205, 34]), (53, e0 .i2l), (54, e0 (.aload_n 0)), (55, e0 (.aload_n 0)), (56, e0 (.iload 7)), (58, .invokevirtual 113, 135, 1, 72, 0, [40195, 10008, 40198, 40197, 32]), (61, .invokevirtual 244, 180, 1, 72, 0, [50146, 10008, 50149, 50148, 62]), (64, e0 .i2l), (65, e0 .lmul)]),
  (82, [(66, e0 (.lstore 8)), (68, e0 (.lload_n 3)), (69, e0 (.lload 8)), (71, e0 .ladd), (72, e0 (.lstore_n 3)), (73, e0 (.lload 5)), (75, e0 (.aload_n 0)), (76, e0 (.iload 7)), (78, e0 (.iconst 0)), (79, .invokevirtual 97, 117, 2, 72, 0, [40203, 10008, 40206, 40205, 34])]),
  (102, [(82, e0 (.iconst 1)), (83, .if_icmp .ne 8, 91, 0, 0, 0, []), (86, e0 (.lload 8)), (88, .goto 4, 92, 0, 0, 0, []), (91, e0 (.lconst 0)), (92, e0 .ladd), (93, e0 (.lstore 5)), (95, e0 (.iinc 7 1)), (98, .goto (-66), 32, 0, 0, 0, []), (101, e0 (.lload_n 3))]),
  (117, [(102, e0 (.lconst 0)), (103, e0 .lcmp), (104, .ifCond .ne 7, 111, 0, 0, 0, []), (107, e0 (.iconst 0)), (108, .goto 11, 119, 0, 0, 0, []), (111, e0 (.iload_n 2)), (112, e0 .i2l), (113, e0 (.lload 5)), (115, e0 .lmul), (116, e0 (.lload_n 3))]),
  (134, [(117, e0 .ldiv), (118, e0 .l2i), (119, e0 (.istore 7)), (121, e0 (.iload_n 1)), (122, e0 (.iconst 1)), (123, .if_icmp .ne 8, 131, 0, 0, 0, []), (126, e0 (.iload 7)), (128, .goto 7, 135, 0, 0, 0, []), (131, e0 (.iload_n 2)), (132, e0 (.iload 7))]),
  (100000, [(134, e0 .isub), (135, e0 .ireturn)])]
def in_185 : MI := (⟨"HarbourTugsModel", "pool", "(II)I"⟩, prog_9_method_72_code, 10, some .int, 2, 0, 0, 46, es_185)
-- 186: HarbourTugsModel work (II)J
def es_186 : List (Nat × List (Nat × Ent)) := [(9, [(0, e0 (.aload_n 0)), (1, e0 (.iload_n 1)), (2, .invokevirtual 108, 119, 1, 72, 0, [40190, 10008, 40193, 40192, 31]), (5, .ifCond .eq 13, 18, 0, 0, 0, []), (8, e0 (.iload_n 2))]),
  (18, [(9, e0 .i2l), (10, e0 (.lconst 0)), (11, e0 (.lconst 1)), (12, .invokestatic 46, 115, 3, 0, 0, [40117, 10008, 40119, 40118]), (15, .ifCond .ne 9, 24, 0, 0, 0, [])]),
  (29, [(18, .ldc2_w 111, 0, 0, 0, (-1), [40194]), (21, .goto 20, 41, 0, 0, 0, []), (24, e0 (.iload_n 2)), (25, .ifCond .ne 11, 36, 0, 0, 0, []), (28, e0 (.aload_n 0))]),
  (38, [(29, e0 (.iload_n 1)), (30, .invokevirtual 113, 135, 1, 72, 0, [40195, 10008, 40198, 40197, 32]), (33, .goto 8, 41, 0, 0, 0, []), (36, e0 (.aload_n 0)), (37, e0 (.iload_n 1))]),
  (100000, [(38, .invokevirtual 104, 136, 1, 72, 0, [40210, 10008, 40213, 40212, 35]), (41, e0 .lreturn)])]
def in_186 : MI := (⟨"HarbourTugsModel", "work", "(II)J"⟩, prog_9_method_73_code, 3, some .long, 2, 0, 0, 46, es_186)
-- 187: HarbourTugsModel berthOf (I)I
def es_187 : List (Nat × List (Nat × Ent)) := [(10, [(0, e0 (.aload_n 0)), (1, e0 (.iload_n 1)), (2, e0 (.bipush 6)), (4, .invokevirtual 97, 117, 2, 72, 0, [40203, 10008, 40206, 40205, 34]), (7, e0 (.istore_n 2)), (8, e0 (.iconst (-1))), (9, e0 (.istore_n 3))]),
  (22, [(10, e0 (.iconst 0)), (11, e0 (.istore 4)), (13, e0 (.iload 4)), (15, e0 .i2l), (16, e0 (.aload_n 0)), (17, .getfield 7, 7, 0, 2220, 0, [40056]), (20, e0 (.bipush 65))]),
  (34, [(22, e0 .laload), (23, e0 .lcmp), (24, .ifCond .ge 45, 69, 0, 0, 0, []), (27, e0 (.aload_n 0)), (28, e0 (.iload 4)), (30, e0 (.iload_n 1)), (31, .invokevirtual 120, 143, 2, 72, 0, [50029, 10008, 50032, 50031, 47])]),
  (48, [(34, .ifCond .eq 29, 63, 0, 0, 0, []), (37, e0 (.aload_n 0)), (38, e0 (.iload 4)), (40, .invokevirtual 124, 142, 1, 72, 0, [50002, 10008, 50005, 50004, 41]), (43, e0 (.iload_n 3)), (44, .if_icmp .le 19, 63, 0, 0, 0, []), (47, e0 (.aload_n 0))]),
  (62, [(48, e0 (.iload 4)), (50, .invokevirtual 124, 142, 1, 72, 0, [50002, 10008, 50005, 50004, 41]), (53, e0 (.istore_n 3)), (54, e0 (.aload_n 0)), (55, e0 (.iload 4)), (57, e0 (.bipush 6)), (59, .invokevirtual 62, 118, 2, 72, 0, [40147, 10008, 40150, 40149, 27])]),
  (100000, [(62, e0 (.istore_n 2)), (63, e0 (.iinc 4 1)), (66, .goto (-53), 13, 0, 0, 0, []), (69, e0 (.iload_n 2)), (70, e0 .ireturn)])]
def in_187 : MI := (⟨"HarbourTugsModel", "berthOf", "(I)I"⟩, prog_9_method_74_code, 5, some .int, 3, 0, 0, 65, es_187)
-- 188: HarbourTugsModel about (II)I
def es_188 : List (Nat × List (Nat × Ent)) := [(14, [(0, e0 (.aload_n 0)), (1, e0 (.iload_n 1)), (2, .invokevirtual 108, 119, 1, 72, 0, [40190, 10008, 40193, 40192, 31]), (5, .ifCond .eq 15, 20, 0, 0, 0, []), (8, e0 (.iload_n 2)), (9, e0 .i2l), (10, e0 (.lconst 0)), (11, .ldc2_w 272, 0, 0, 0, 7, [50183])]),
  (70, [(14, .invokestatic 46, 115, 3, 0, 0, [40117, 10008, 40119, 40118]), (17, .ifCond .ne 6, 23, 0, 0, 0, []), (20, e0 (.bipush (-100))), (22, e0 .ireturn), (23, e0 (.iload_n 2)), (24, .tableswitch 112 0 6 #[44, 51, 58, 65, 72, 79, 87], 136, 0, 44, 0, [68, 75, 82, 89, 96, 103, 111]), (68, e0 (.aload_n 0)), (69, e0 (.iload_n 1))]),
  (82, [(70, e0 (.iconst 0)), (71, .invokevirtual 97, 117, 2, 72, 0, [40203, 10008, 40206, 40205, 34]), (74, e0 .ireturn), (75, e0 (.aload_n 0)), (76, e0 (.iload_n 1)), (77, e0 (.iconst 1)), (78, .invokevirtual 97, 117, 2, 72, 0, [40203, 10008, 40206, 40205, 34]), (81, e0 .ireturn)]),
  (92, [(82, e0 (.aload_n 0)), (83, e0 (.iload_n 1)), (84, e0 (.iconst 2)), (85, .invokevirtual 97, 117, 2, 72, 0, [40203, 10008, 40206, 40205, 34]), (88, e0 .ireturn), (89, e0 (.aload_n 0)), (90, e0 (.iload_n 1)), (91, e0 (.iconst 4))]),
  (104, [(92, .invokevirtual 97, 117, 2, 72, 0, [40203, 10008, 40206, 40205, 34]), (95, e0 .ireturn), (96, e0 (.aload_n 0)), (97, e0 (.iload_n 1)), (98, e0 (.iconst 5)), (99, .invokevirtual 97, 117, 2, 72, 0, [40203, 10008, 40206, 40205, 34]), (102, e0 .ireturn), (103, e0 (.aload_n 0))]),
  (118, [(104, e0 (.iload_n 1)), (105, e0 (.bipush 6)), (107, .invokevirtual 97, 117, 2, 72, 0, [40203, 10008, 40206, 40205, 34]), (110, e0 .ireturn), (111, e0 (.aload_n 0)), (112, e0 (.iload_n 1)), (113, e0 (.bipush 7)), (115, .invokevirtual 97, 117, 2, 72, 0, [40203, 10008, 40206, 40205, 34])]),
  (135, [(118, e0 (.bipush 48)), (120, .if_icmp .ne 8, 128, 0, 0, 0, []), (123, e0 (.bipush (-4))), (125, .goto 10, 135, 0, 0, 0, []), (128, e0 (.aload_n 0)), (129, e0 (.iload_n 1)), (130, e0 (.bipush 7)), (132, .invokevirtual 97, 117, 2, 72, 0, [40203, 10008, 40206, 40205, 34])]),
  (100000, [(135, e0 .ireturn), (136, e0 (.aload_n 0)), (137, e0 (.iload_n 1)), (138, .invokevirtual 274, 187, 1, 72, 0, [50184, 10008, 50187, 50186, 64]), (141, e0 .ireturn)])]
def in_188 : MI := (⟨"HarbourTugsModel", "about", "(II)I"⟩, prog_9_method_75_code, 3, some .int, 4, 0, 0, 89, es_188)
-- 189: HarbourTugsModel keep ()I
def es_189 : List (Nat × List (Nat × Ent)) := [(11, [(0, e0 (.aload_n 0)), (1, .getfield 277, 7, 2, 0, 0, [40058]), (4, e0 (.iconst 3)), (5, .if_icmp .ne 6, 11, 0, 0, 0, []), (8, e0 (.bipush (-3))), (10, e0 .ireturn)]),
  (21, [(11, e0 (.iconst 0)), (12, e0 (.istore_n 1)), (13, e0 (.iload_n 1)), (14, e0 (.sipush 218)), (17, .if_icmp .ge 30, 47, 0, 0, 0, []), (20, e0 (.aload_n 0))]),
  (33, [(21, .getfield 13, 7, 1, 2656, 0, [40057]), (24, e0 (.sipush 218)), (27, e0 (.aload_n 0)), (28, .getfield 277, 7, 2, 0, 0, [40058]), (31, e0 .imul), (32, e0 (.iload_n 1))]),
  (41, [(33, e0 .iadd), (34, e0 (.aload_n 0)), (35, .getfield 7, 7, 0, 2220, 0, [40056]), (38, e0 (.iload_n 1)), (39, e0 .laload), (40, e0 .lastore)]),
  (53, [(41, e0 (.iinc 1 1)), (44, .goto (-31), 13, 0, 0, 0, []), (47, e0 (.aload_n 0)), (48, e0 .dup), (49, .getfield 277, 7, 2, 0, 0, [40058]), (52, e0 (.iconst 1))]),
  (100000, [(53, e0 .iadd), (54, .putfield 277, 7, 2, 0, 0, [40058]), (57, e0 (.aload_n 0)), (58, .getfield 277, 7, 2, 0, 0, [40058]), (61, e0 .ireturn)])]
def in_189 : MI := (⟨"HarbourTugsModel", "keep", "()I"⟩, prog_9_method_76_code, 2, some .int, 0, 0, 0, 0, es_189)
-- 190: HarbourTugsModel back ()I
def es_190 : List (Nat × List (Nat × Ent)) := [(11, [(0, e0 (.aload_n 0)), (1, .getfield 277, 7, 2, 0, 0, [40058]), (4, .ifCond .ne 6, 10, 0, 0, 0, []), (7, e0 (.bipush (-2))), (9, e0 .ireturn), (10, e0 (.aload_n 0))]),
  (21, [(11, e0 .dup), (12, .getfield 277, 7, 2, 0, 0, [40058]), (15, e0 (.iconst 1)), (16, e0 .isub), (17, .putfield 277, 7, 2, 0, 0, [40058]), (20, e0 (.iconst 0))]),
  (33, [(21, e0 (.istore_n 1)), (22, e0 (.iload_n 1)), (23, e0 (.sipush 218)), (26, .if_icmp .ge 30, 56, 0, 0, 0, []), (29, e0 (.aload_n 0)), (30, .getfield 7, 7, 0, 2220, 0, [40056])]),
  (45, [(33, e0 (.iload_n 1)), (34, e0 (.aload_n 0)), (35, .getfield 13, 7, 1, 2656, 0, [40057]), (38, e0 (.sipush 218)), (41, e0 (.aload_n 0)), (42, .getfield 277, 7, 2, 0, 0, [40058])]),
  (53, [(45, e0 .imul), (46, e0 (.iload_n 1)), (47, e0 .iadd), (48, e0 .laload), (49, e0 .lastore), (50, e0 (.iinc 1 1))]),
  (100000, [(53, .goto (-31), 22, 0, 0, 0, []), (56, e0 (.aload_n 0)), (57, .getfield 277, 7, 2, 0, 0, [40058]), (60, e0 .ireturn)])]
def in_190 : MI := (⟨"HarbourTugsModel", "back", "()I"⟩, prog_9_method_77_code, 2, some .int, 0, 0, 0, 0, es_190)
-- 191: HarbourTugsModel count (I)I
def es_191 : List (Nat × List (Nat × Ent)) := [(12, [(0, e0 (.iconst 0)), (1, e0 (.istore_n 2)), (2, e0 (.iconst 0)), (3, e0 (.istore_n 3)), (4, e0 (.iload_n 3)), (5, e0 .i2l), (6, e0 (.aload_n 0)), (7, .getfield 7, 7, 0, 2220, 0, [40056]), (10, e0 (.bipush 65))]),
  (27, [(12, e0 .laload), (13, e0 .lcmp), (14, .ifCond .ge 25, 39, 0, 0, 0, []), (17, e0 (.iload_n 2)), (18, e0 (.aload_n 0)), (19, e0 (.iload_n 3)), (20, .invokevirtual 71, 125, 1, 72, 0, [40143, 10008, 40146, 40145, 26]), (23, .ifCond .eq 7, 30, 0, 0, 0, []), (26, e0 (.iconst 1))]),
  (97, [(27, .goto 4, 31, 0, 0, 0, []), (30, e0 (.iconst 0)), (31, e0 .iadd), (32, e0 (.istore_n 2)), (33, e0 (.iinc 3 1)), (36, .goto (-32), 4, 0, 0, 0, []), (39, e0 (.iload_n 1)), (40, .tableswitch 134 0 9 #[56, 65, 74, 76, 88, 97, 106, 115, 124, 129], 174, 0, 56, 0, [96, 105, 114, 116, 128, 137, 146, 155, 164, 169]), (96, e0 (.aload_n 0))]),
  (112, [(97, .getfield 7, 7, 0, 2220, 0, [40056]), (100, e0 (.bipush 64)), (102, e0 .laload), (103, e0 .l2i), (104, e0 .ireturn), (105, e0 (.aload_n 0)), (106, .getfield 7, 7, 0, 2220, 0, [40056]), (109, e0 (.bipush 65)), (111, e0 .laload)]),
  (124, [(112, e0 .l2i), (113, e0 .ireturn), (114, e0 (.iload_n 2)), (115, e0 .ireturn), (116, e0 (.aload_n 0)), (117, e0 (.aload_n 0)), (118, .getfield 7, 7, 0, 2220, 0, [40056]), (121, e0 (.bipush 63)), (123, e0 .laload)]),
  (138, [(124, .invokevirtual 244, 180, 1, 72, 0, [50146, 10008, 50149, 50148, 62]), (127, e0 .ireturn), (128, e0 (.aload_n 0)), (129, .getfield 7, 7, 0, 2220, 0, [40056]), (132, e0 (.bipush 66)), (134, e0 .laload), (135, e0 .l2i), (136, e0 .ireturn), (137, e0 (.aload_n 0))]),
  (153, [(138, .getfield 7, 7, 0, 2220, 0, [40056]), (141, e0 (.bipush 67)), (143, e0 .laload), (144, e0 .l2i), (145, e0 .ireturn), (146, e0 (.aload_n 0)), (147, .getfield 7, 7, 0, 2220, 0, [40056]), (150, e0 (.bipush 68)), (152, e0 .laload)]),
  (165, [(153, e0 .l2i), (154, e0 .ireturn), (155, e0 (.aload_n 0)), (156, .getfield 7, 7, 0, 2220, 0, [40056]), (159, e0 (.bipush 69)), (161, e0 .laload), (162, e0 .l2i), (163, e0 .ireturn), (164, e0 (.aload_n 0))]),
  (100000, [(165, .getfield 258, 7, 5, 0, 0, [40061]), (168, e0 .ireturn), (169, e0 (.aload_n 0)), (170, .getfield 277, 7, 2, 0, 0, [40058]), (173, e0 .ireturn), (174, e0 (.iconst (-1))), (175, e0 .ireturn)])]
def in_191 : MI := (⟨"HarbourTugsModel", "count", "(I)I"⟩, prog_9_method_78_code, 4, some .int, 2, 0, 0, 46, es_191)
-- 192: java/lang/Long bitCount (J)I
def es_192 : List (Nat × List (Nat × Ent)) := [(9, [(0, e0 (.lload_n 0)), (1, e0 (.lload_n 0)), (2, e0 (.iconst 1)), (3, e0 .lushr), (4, .ldc2_w 314, 0, 0, 0, 6148914691236517205, [30009]), (7, e0 .land), (8, e0 .lsub)]),
  (18, [(9, e0 (.lstore_n 0)), (10, e0 (.lload_n 0)), (11, .ldc2_w 316, 0, 0, 0, 3689348814741910323, [30010]), (14, e0 .land), (15, e0 (.lload_n 0)), (16, e0 (.iconst 2)), (17, e0 .lushr)]),
  (27, [(18, .ldc2_w 316, 0, 0, 0, 3689348814741910323, [30010]), (21, e0 .land), (22, e0 .ladd), (23, e0 (.lstore_n 0)), (24, e0 (.lload_n 0)), (25, e0 (.lload_n 0)), (26, e0 (.iconst 4))]),
  (36, [(27, e0 .lushr), (28, e0 .ladd), (29, .ldc2_w 318, 0, 0, 0, 1085102592571150095, [30011]), (32, e0 .land), (33, e0 (.lstore_n 0)), (34, e0 (.lload_n 0)), (35, e0 (.lload_n 0))]),
  (45, [(36, e0 (.bipush 8)), (38, e0 .lushr), (39, e0 .ladd), (40, e0 (.lstore_n 0)), (41, e0 (.lload_n 0)), (42, e0 (.lload_n 0)), (43, e0 (.bipush 16))]),
  (53, [(45, e0 .lushr), (46, e0 .ladd), (47, e0 (.lstore_n 0)), (48, e0 (.lload_n 0)), (49, e0 (.lload_n 0)), (50, e0 (.bipush 32)), (52, e0 .lushr)]),
  (100000, [(53, e0 .ladd), (54, e0 (.lstore_n 0)), (55, e0 (.lload_n 0)), (56, e0 .l2i), (57, e0 (.bipush 127)), (59, e0 .iand), (60, e0 .ireturn)])]
def in_192 : MI := (⟨"java/lang/Long", "bitCount", "(J)I"⟩, prog_11_method_50_code, 2, some .int, 0, 0, 0, 0, es_192)
-- 193: java/lang/Integer bitCount (I)I
def es_193 : List (Nat × List (Nat × Ent)) := [(9, [(0, e0 (.iload_n 0)), (1, e0 (.iload_n 0)), (2, e0 (.iconst 1)), (3, e0 .iushr), (4, .ldc_w 265, 0, 0, 0, 1431655765, [30085]), (7, e0 .iand), (8, e0 .isub)]),
  (18, [(9, e0 (.istore_n 0)), (10, e0 (.iload_n 0)), (11, .ldc_w 266, 0, 0, 0, 858993459, [30086]), (14, e0 .iand), (15, e0 (.iload_n 0)), (16, e0 (.iconst 2)), (17, e0 .iushr)]),
  (27, [(18, .ldc_w 266, 0, 0, 0, 858993459, [30086]), (21, e0 .iand), (22, e0 .iadd), (23, e0 (.istore_n 0)), (24, e0 (.iload_n 0)), (25, e0 (.iload_n 0)), (26, e0 (.iconst 4))]),
  (36, [(27, e0 .iushr), (28, e0 .iadd), (29, .ldc_w 267, 0, 0, 0, 252645135, [30087]), (32, e0 .iand), (33, e0 (.istore_n 0)), (34, e0 (.iload_n 0)), (35, e0 (.iload_n 0))]),
  (45, [(36, e0 (.bipush 8)), (38, e0 .iushr), (39, e0 .iadd), (40, e0 (.istore_n 0)), (41, e0 (.iload_n 0)), (42, e0 (.iload_n 0)), (43, e0 (.bipush 16))]),
  (100000, [(45, e0 .iushr), (46, e0 .iadd), (47, e0 (.istore_n 0)), (48, e0 (.iload_n 0)), (49, e0 (.bipush 63)), (51, e0 .iand), (52, e0 .ireturn)])]
def in_193 : MI := (⟨"java/lang/Integer", "bitCount", "(I)I"⟩, prog_10_method_49_code, 1, some .int, 0, 0, 0, 0, es_193)
-- 194: HarbourTugsLaw law ([I)Z
def es_194 : List (Nat × List (Nat × Ent)) := [(180, [(0, .new 7, 6, 0, 6, 0, [10013, 10014, 10001]), (3, e0 .dup), (4, .invokespecial 9, 73, 0, 4, 0, [10015, 10001, 10017, 10016]), (7, e0 (.astore_n 1)), (8, .new 10, 7, 0, 18, 0, [40047, 40048, 10008]), (11, e0 .dup), (12, .invokespecial 12, 114, 0, 4, 0, [40049, 10008, 40051, 40050]), (15, e0 (.astore_n 2)), (16, e0 (.iconst 0)), (17, e0 (.istore_n 3)), (18, e0 (.iload_n 3)), (19, e0 (.aload_n 0)), (20, e0 .arraylength), (21, e0 (.bipush 8)), (23, e0 .isub), (24, .if_icmp .gt 1217, 1241, 0, 0, 0, []), (27, e0 (.aload_n 0)), (28, e0 (.iload_n 3)), (29, e0 .iaload), (30, e0 (.bipush 31)), (32, e0 .iand), (33, .tableswitch 1202 0 30 #[139, 172, 205, 238, 281, 314, 401, 488, 521, 554, 587, 630, 673, 696, 729, 762, 795, 818, 851, 874, 907, 930, 963, 976, 1029, 1053, 1086, 1120, 1153, 1166, 1179], 1235, 0, 139, 0, [172, 205, 238, 271, 314, 347, 434, 521, 554, 587, 620, 663, 706, 729, 762, 795, 828, 851, 884, 907, 940, 963, 996, 1009, 1062, 1086, 1119, 1153, 1186, 1199, 1212]), (172, e0 (.aload_n 1)), (173, e0 (.aload_n 0)), (174, e0 (.iload_n 3)), (175, e0 (.iconst 1)), (176, e0 .iadd), (177, e0 .iaload), (178, e0 (.aload_n 0)), (179, e0 (.iload_n 3))]),
  (216, [(180, e0 (.iconst 2)), (181, e0 .iadd), (182, e0 .iaload), (183, .invokevirtual 13, 74, 2, 62, 0, [20052, 10001, 20055, 20053, 20054]), (186, e0 (.aload_n 2)), (187, e0 (.aload_n 0)), (188, e0 (.iload_n 3)), (189, e0 (.iconst 1)), (190, e0 .iadd), (191, e0 .iaload), (192, e0 (.aload_n 0)), (193, e0 (.iload_n 3)), (194, e0 (.iconst 2)), (195, e0 .iadd), (196, e0 .iaload), (197, .invokevirtual 17, 122, 2, 72, 0, [40112, 10008, 40115, 40113, 40114]), (200, .if_icmp .eq 1035, 1235, 0, 0, 0, []), (203, e0 (.iconst 0)), (204, e0 .ireturn), (205, e0 (.aload_n 1)), (206, e0 (.aload_n 0)), (207, e0 (.iload_n 3)), (208, e0 (.iconst 1)), (209, e0 .iadd), (210, e0 .iaload), (211, e0 (.aload_n 0)), (212, e0 (.iload_n 3)), (213, e0 (.iconst 2)), (214, e0 .iadd), (215, e0 .iaload)]),
  (254, [(216, .invokevirtual 18, 75, 2, 62, 0, [20059, 10001, 20062, 20060, 20061]), (219, e0 (.aload_n 2)), (220, e0 (.aload_n 0)), (221, e0 (.iload_n 3)), (222, e0 (.iconst 1)), (223, e0 .iadd), (224, e0 .iaload), (225, e0 (.aload_n 0)), (226, e0 (.iload_n 3)), (227, e0 (.iconst 2)), (228, e0 .iadd), (229, e0 .iaload), (230, .invokevirtual 21, 123, 2, 72, 0, [40121, 10008, 40124, 40122, 40123]), (233, .if_icmp .eq 1002, 1235, 0, 0, 0, []), (236, e0 (.iconst 0)), (237, e0 .ireturn), (238, e0 (.aload_n 1)), (239, e0 (.aload_n 0)), (240, e0 (.iload_n 3)), (241, e0 (.iconst 1)), (242, e0 .iadd), (243, e0 .iaload), (244, e0 (.aload_n 0)), (245, e0 (.iload_n 3)), (246, e0 (.iconst 2)), (247, e0 .iadd), (248, e0 .iaload), (249, .invokevirtual 22, 76, 2, 62, 0, [20066, 10001, 20069, 20067, 20068]), (252, e0 (.aload_n 2)), (253, e0 (.aload_n 0))]),
  (290, [(254, e0 (.iload_n 3)), (255, e0 (.iconst 1)), (256, e0 .iadd), (257, e0 .iaload), (258, e0 (.aload_n 0)), (259, e0 (.iload_n 3)), (260, e0 (.iconst 2)), (261, e0 .iadd), (262, e0 .iaload), (263, .invokevirtual 25, 124, 2, 72, 0, [40129, 10008, 40132, 40130, 40131]), (266, .if_icmp .eq 969, 1235, 0, 0, 0, []), (269, e0 (.iconst 0)), (270, e0 .ireturn), (271, e0 (.aload_n 1)), (272, e0 (.aload_n 0)), (273, e0 (.iload_n 3)), (274, e0 (.iconst 1)), (275, e0 .iadd), (276, e0 .iaload), (277, e0 (.aload_n 0)), (278, e0 (.iload_n 3)), (279, e0 (.iconst 2)), (280, e0 .iadd), (281, e0 .iaload), (282, e0 (.aload_n 0)), (283, e0 (.iload_n 3)), (284, e0 (.iconst 3)), (285, e0 .iadd), (286, e0 .iaload), (287, .invokevirtual 26, 77, 3, 62, 0, [20070, 10001, 20073, 20071, 20072])]),
  (324, [(290, e0 (.aload_n 2)), (291, e0 (.aload_n 0)), (292, e0 (.iload_n 3)), (293, e0 (.iconst 1)), (294, e0 .iadd), (295, e0 .iaload), (296, e0 (.aload_n 0)), (297, e0 (.iload_n 3)), (298, e0 (.iconst 2)), (299, e0 .iadd), (300, e0 .iaload), (301, e0 (.aload_n 0)), (302, e0 (.iload_n 3)), (303, e0 (.iconst 3)), (304, e0 .iadd), (305, e0 .iaload), (306, .invokevirtual 30, 126, 3, 72, 0, [40135, 10008, 40138, 40136, 40137]), (309, .if_icmp .eq 926, 1235, 0, 0, 0, []), (312, e0 (.iconst 0)), (313, e0 .ireturn), (314, e0 (.aload_n 1)), (315, e0 (.aload_n 0)), (316, e0 (.iload_n 3)), (317, e0 (.iconst 1)), (318, e0 .iadd), (319, e0 .iaload), (320, e0 (.aload_n 0)), (321, e0 (.iload_n 3)), (322, e0 (.iconst 2)), (323, e0 .iadd)]),
  (360, [(324, e0 .iaload), (325, .invokevirtual 31, 78, 2, 62, 0, [20085, 10001, 20088, 20086, 20087]), (328, e0 (.aload_n 2)), (329, e0 (.aload_n 0)), (330, e0 (.iload_n 3)), (331, e0 (.iconst 1)), (332, e0 .iadd), (333, e0 .iaload), (334, e0 (.aload_n 0)), (335, e0 (.iload_n 3)), (336, e0 (.iconst 2)), (337, e0 .iadd), (338, e0 .iaload), (339, .invokevirtual 34, 128, 2, 72, 0, [40151, 10008, 40154, 40152, 40153]), (342, .if_icmp .eq 893, 1235, 0, 0, 0, []), (345, e0 (.iconst 0)), (346, e0 .ireturn), (347, e0 (.aload_n 1)), (348, e0 (.aload_n 0)), (349, e0 (.iload_n 3)), (350, e0 (.iconst 1)), (351, e0 .iadd), (352, e0 .iaload), (353, e0 (.aload_n 0)), (354, e0 (.iload_n 3)), (355, e0 (.iconst 2)), (356, e0 .iadd), (357, e0 .iaload), (358, e0 (.aload_n 0)), (359, e0 (.iload_n 3))]),
  (394, [(360, e0 (.iconst 3)), (361, e0 .iadd), (362, e0 .iaload), (363, e0 (.aload_n 0)), (364, e0 (.iload_n 3)), (365, e0 (.iconst 4)), (366, e0 .iadd), (367, e0 .iaload), (368, e0 (.aload_n 0)), (369, e0 (.iload_n 3)), (370, e0 (.iconst 5)), (371, e0 .iadd), (372, e0 .iaload), (373, e0 (.aload_n 0)), (374, e0 (.iload_n 3)), (375, e0 (.bipush 6)), (377, e0 .iadd), (378, e0 .iaload), (379, e0 (.aload_n 0)), (380, e0 (.iload_n 3)), (381, e0 (.bipush 7)), (383, e0 .iadd), (384, e0 .iaload), (385, .invokevirtual 35, 79, 7, 62, 0, [20094, 10001, 20097, 20095, 20096]), (388, e0 (.aload_n 2)), (389, e0 (.aload_n 0)), (390, e0 (.iload_n 3)), (391, e0 (.iconst 1)), (392, e0 .iadd), (393, e0 .iaload)]),
  (426, [(394, e0 (.aload_n 0)), (395, e0 (.iload_n 3)), (396, e0 (.iconst 2)), (397, e0 .iadd), (398, e0 .iaload), (399, e0 (.aload_n 0)), (400, e0 (.iload_n 3)), (401, e0 (.iconst 3)), (402, e0 .iadd), (403, e0 .iaload), (404, e0 (.aload_n 0)), (405, e0 (.iload_n 3)), (406, e0 (.iconst 4)), (407, e0 .iadd), (408, e0 .iaload), (409, e0 (.aload_n 0)), (410, e0 (.iload_n 3)), (411, e0 (.iconst 5)), (412, e0 .iadd), (413, e0 .iaload), (414, e0 (.aload_n 0)), (415, e0 (.iload_n 3)), (416, e0 (.bipush 6)), (418, e0 .iadd), (419, e0 .iaload), (420, e0 (.aload_n 0)), (421, e0 (.iload_n 3)), (422, e0 (.bipush 7)), (424, e0 .iadd), (425, e0 .iaload)]),
  (460, [(426, .invokevirtual 39, 129, 7, 72, 0, [40159, 10008, 40162, 40160, 40161]), (429, .if_icmp .eq 806, 1235, 0, 0, 0, []), (432, e0 (.iconst 0)), (433, e0 .ireturn), (434, e0 (.aload_n 1)), (435, e0 (.aload_n 0)), (436, e0 (.iload_n 3)), (437, e0 (.iconst 1)), (438, e0 .iadd), (439, e0 .iaload), (440, e0 (.aload_n 0)), (441, e0 (.iload_n 3)), (442, e0 (.iconst 2)), (443, e0 .iadd), (444, e0 .iaload), (445, e0 (.aload_n 0)), (446, e0 (.iload_n 3)), (447, e0 (.iconst 3)), (448, e0 .iadd), (449, e0 .iaload), (450, e0 (.aload_n 0)), (451, e0 (.iload_n 3)), (452, e0 (.iconst 4)), (453, e0 .iadd), (454, e0 .iaload), (455, e0 (.aload_n 0)), (456, e0 (.iload_n 3)), (457, e0 (.iconst 5)), (458, e0 .iadd), (459, e0 .iaload)]),
  (494, [(460, e0 (.aload_n 0)), (461, e0 (.iload_n 3)), (462, e0 (.bipush 6)), (464, e0 .iadd), (465, e0 .iaload), (466, e0 (.aload_n 0)), (467, e0 (.iload_n 3)), (468, e0 (.bipush 7)), (470, e0 .iadd), (471, e0 .iaload), (472, .invokevirtual 40, 80, 7, 62, 0, [20102, 10001, 20105, 20103, 20104]), (475, e0 (.aload_n 2)), (476, e0 (.aload_n 0)), (477, e0 (.iload_n 3)), (478, e0 (.iconst 1)), (479, e0 .iadd), (480, e0 .iaload), (481, e0 (.aload_n 0)), (482, e0 (.iload_n 3)), (483, e0 (.iconst 2)), (484, e0 .iadd), (485, e0 .iaload), (486, e0 (.aload_n 0)), (487, e0 (.iload_n 3)), (488, e0 (.iconst 3)), (489, e0 .iadd), (490, e0 .iaload), (491, e0 (.aload_n 0)), (492, e0 (.iload_n 3)), (493, e0 (.iconst 4))]),
  (530, [(494, e0 .iadd), (495, e0 .iaload), (496, e0 (.aload_n 0)), (497, e0 (.iload_n 3)), (498, e0 (.iconst 5)), (499, e0 .iadd), (500, e0 .iaload), (501, e0 (.aload_n 0)), (502, e0 (.iload_n 3)), (503, e0 (.bipush 6)), (505, e0 .iadd), (506, e0 .iaload), (507, e0 (.aload_n 0)), (508, e0 (.iload_n 3)), (509, e0 (.bipush 7)), (511, e0 .iadd), (512, e0 .iaload), (513, .invokevirtual 43, 130, 7, 72, 0, [40165, 10008, 40168, 40166, 40167]), (516, .if_icmp .eq 719, 1235, 0, 0, 0, []), (519, e0 (.iconst 0)), (520, e0 .ireturn), (521, e0 (.aload_n 1)), (522, e0 (.aload_n 0)), (523, e0 (.iload_n 3)), (524, e0 (.iconst 1)), (525, e0 .iadd), (526, e0 .iaload), (527, e0 (.aload_n 0)), (528, e0 (.iload_n 3)), (529, e0 (.iconst 2))]),
  (568, [(530, e0 .iadd), (531, e0 .iaload), (532, .invokevirtual 44, 81, 2, 62, 0, [20114, 10001, 20117, 20115, 20116]), (535, e0 (.aload_n 2)), (536, e0 (.aload_n 0)), (537, e0 (.iload_n 3)), (538, e0 (.iconst 1)), (539, e0 .iadd), (540, e0 .iaload), (541, e0 (.aload_n 0)), (542, e0 (.iload_n 3)), (543, e0 (.iconst 2)), (544, e0 .iadd), (545, e0 .iaload), (546, .invokevirtual 47, 132, 2, 72, 0, [40174, 10008, 40177, 40175, 40176]), (549, .if_icmp .eq 686, 1235, 0, 0, 0, []), (552, e0 (.iconst 0)), (553, e0 .ireturn), (554, e0 (.aload_n 1)), (555, e0 (.aload_n 0)), (556, e0 (.iload_n 3)), (557, e0 (.iconst 1)), (558, e0 .iadd), (559, e0 .iaload), (560, e0 (.aload_n 0)), (561, e0 (.iload_n 3)), (562, e0 (.iconst 2)), (563, e0 .iadd), (564, e0 .iaload), (565, .invokevirtual 48, 82, 2, 62, 0, [20127, 10001, 20130, 20128, 20129])]),
  (604, [(568, e0 (.aload_n 2)), (569, e0 (.aload_n 0)), (570, e0 (.iload_n 3)), (571, e0 (.iconst 1)), (572, e0 .iadd), (573, e0 .iaload), (574, e0 (.aload_n 0)), (575, e0 (.iload_n 3)), (576, e0 (.iconst 2)), (577, e0 .iadd), (578, e0 .iaload), (579, .invokevirtual 51, 139, 2, 72, 0, [40214, 10008, 40217, 40215, 40216]), (582, .if_icmp .eq 653, 1235, 0, 0, 0, []), (585, e0 (.iconst 0)), (586, e0 .ireturn), (587, e0 (.aload_n 1)), (588, e0 (.aload_n 0)), (589, e0 (.iload_n 3)), (590, e0 (.iconst 1)), (591, e0 .iadd), (592, e0 .iaload), (593, e0 (.aload_n 0)), (594, e0 (.iload_n 3)), (595, e0 (.iconst 2)), (596, e0 .iadd), (597, e0 .iaload), (598, .invokevirtual 52, 83, 2, 62, 0, [20151, 10001, 20154, 20152, 20153]), (601, e0 (.aload_n 2)), (602, e0 (.aload_n 0)), (603, e0 (.iload_n 3))]),
  (640, [(604, e0 (.iconst 1)), (605, e0 .iadd), (606, e0 .iaload), (607, e0 (.aload_n 0)), (608, e0 (.iload_n 3)), (609, e0 (.iconst 2)), (610, e0 .iadd), (611, e0 .iaload), (612, .invokevirtual 55, 138, 2, 72, 0, [40186, 10008, 40189, 40187, 40188]), (615, .if_icmp .eq 620, 1235, 0, 0, 0, []), (618, e0 (.iconst 0)), (619, e0 .ireturn), (620, e0 (.aload_n 1)), (621, e0 (.aload_n 0)), (622, e0 (.iload_n 3)), (623, e0 (.iconst 1)), (624, e0 .iadd), (625, e0 .iaload), (626, e0 (.aload_n 0)), (627, e0 (.iload_n 3)), (628, e0 (.iconst 2)), (629, e0 .iadd), (630, e0 .iaload), (631, e0 (.aload_n 0)), (632, e0 (.iload_n 3)), (633, e0 (.iconst 3)), (634, e0 .iadd), (635, e0 .iaload), (636, .invokevirtual 56, 84, 3, 62, 0, [20155, 10001, 20158, 20156, 20157]), (639, e0 (.aload_n 2))]),
  (674, [(640, e0 (.aload_n 0)), (641, e0 (.iload_n 3)), (642, e0 (.iconst 1)), (643, e0 .iadd), (644, e0 .iaload), (645, e0 (.aload_n 0)), (646, e0 (.iload_n 3)), (647, e0 (.iconst 2)), (648, e0 .iadd), (649, e0 .iaload), (650, e0 (.aload_n 0)), (651, e0 (.iload_n 3)), (652, e0 (.iconst 3)), (653, e0 .iadd), (654, e0 .iaload), (655, .invokevirtual 59, 152, 3, 72, 0, [40218, 10008, 40221, 40219, 40220]), (658, .if_icmp .eq 577, 1235, 0, 0, 0, []), (661, e0 (.iconst 0)), (662, e0 .ireturn), (663, e0 (.aload_n 1)), (664, e0 (.aload_n 0)), (665, e0 (.iload_n 3)), (666, e0 (.iconst 1)), (667, e0 .iadd), (668, e0 .iaload), (669, e0 (.aload_n 0)), (670, e0 (.iload_n 3)), (671, e0 (.iconst 2)), (672, e0 .iadd), (673, e0 .iaload)]),
  (710, [(674, e0 (.aload_n 0)), (675, e0 (.iload_n 3)), (676, e0 (.iconst 3)), (677, e0 .iadd), (678, e0 .iaload), (679, .invokevirtual 60, 85, 3, 62, 0, [30038, 10001, 30041, 30039, 30040]), (682, e0 (.aload_n 2)), (683, e0 (.aload_n 0)), (684, e0 (.iload_n 3)), (685, e0 (.iconst 1)), (686, e0 .iadd), (687, e0 .iaload), (688, e0 (.aload_n 0)), (689, e0 (.iload_n 3)), (690, e0 (.iconst 2)), (691, e0 .iadd), (692, e0 .iaload), (693, e0 (.aload_n 0)), (694, e0 (.iload_n 3)), (695, e0 (.iconst 3)), (696, e0 .iadd), (697, e0 .iaload), (698, .invokevirtual 63, 154, 3, 72, 0, [50033, 10008, 50036, 50034, 50035]), (701, .if_icmp .eq 534, 1235, 0, 0, 0, []), (704, e0 (.iconst 0)), (705, e0 .ireturn), (706, e0 (.aload_n 1)), (707, e0 (.aload_n 0)), (708, e0 (.iload_n 3)), (709, e0 (.iconst 1))]),
  (748, [(710, e0 .iadd), (711, e0 .iaload), (712, .invokevirtual 64, 86, 1, 62, 0, [30046, 10001, 30049, 30047, 30048]), (715, e0 (.aload_n 2)), (716, e0 (.aload_n 0)), (717, e0 (.iload_n 3)), (718, e0 (.iconst 1)), (719, e0 .iadd), (720, e0 .iaload), (721, .invokevirtual 68, 156, 1, 72, 0, [50042, 10008, 50045, 50043, 50044]), (724, .if_icmp .eq 511, 1235, 0, 0, 0, []), (727, e0 (.iconst 0)), (728, e0 .ireturn), (729, e0 (.aload_n 1)), (730, e0 (.aload_n 0)), (731, e0 (.iload_n 3)), (732, e0 (.iconst 1)), (733, e0 .iadd), (734, e0 .iaload), (735, e0 (.aload_n 0)), (736, e0 (.iload_n 3)), (737, e0 (.iconst 2)), (738, e0 .iadd), (739, e0 .iaload), (740, .invokevirtual 69, 87, 2, 62, 0, [30062, 10001, 30065, 30063, 30064]), (743, e0 (.aload_n 2)), (744, e0 (.aload_n 0)), (745, e0 (.iload_n 3)), (746, e0 (.iconst 1)), (747, e0 .iadd)]),
  (784, [(748, e0 .iaload), (749, e0 (.aload_n 0)), (750, e0 (.iload_n 3)), (751, e0 (.iconst 2)), (752, e0 .iadd), (753, e0 .iaload), (754, .invokevirtual 72, 160, 2, 72, 0, [50050, 10008, 50053, 50051, 50052]), (757, .if_icmp .eq 478, 1235, 0, 0, 0, []), (760, e0 (.iconst 0)), (761, e0 .ireturn), (762, e0 (.aload_n 1)), (763, e0 (.aload_n 0)), (764, e0 (.iload_n 3)), (765, e0 (.iconst 1)), (766, e0 .iadd), (767, e0 .iaload), (768, e0 (.aload_n 0)), (769, e0 (.iload_n 3)), (770, e0 (.iconst 2)), (771, e0 .iadd), (772, e0 .iaload), (773, .invokevirtual 73, 88, 2, 62, 0, [30088, 10001, 30091, 30089, 30090]), (776, e0 (.aload_n 2)), (777, e0 (.aload_n 0)), (778, e0 (.iload_n 3)), (779, e0 (.iconst 1)), (780, e0 .iadd), (781, e0 .iaload), (782, e0 (.aload_n 0)), (783, e0 (.iload_n 3))]),
  (820, [(784, e0 (.iconst 2)), (785, e0 .iadd), (786, e0 .iaload), (787, .invokevirtual 76, 161, 2, 72, 0, [50065, 10008, 50068, 50066, 50067]), (790, .if_icmp .eq 445, 1235, 0, 0, 0, []), (793, e0 (.iconst 0)), (794, e0 .ireturn), (795, e0 (.aload_n 1)), (796, e0 (.aload_n 0)), (797, e0 (.iload_n 3)), (798, e0 (.iconst 1)), (799, e0 .iadd), (800, e0 .iaload), (801, e0 (.aload_n 0)), (802, e0 (.iload_n 3)), (803, e0 (.iconst 2)), (804, e0 .iadd), (805, e0 .iaload), (806, .invokevirtual 77, 89, 2, 62, 0, [30092, 10001, 30095, 30093, 30094]), (809, e0 (.aload_n 2)), (810, e0 (.aload_n 0)), (811, e0 (.iload_n 3)), (812, e0 (.iconst 1)), (813, e0 .iadd), (814, e0 .iaload), (815, e0 (.aload_n 0)), (816, e0 (.iload_n 3)), (817, e0 (.iconst 2)), (818, e0 .iadd), (819, e0 .iaload)]),
  (860, [(820, .invokevirtual 80, 170, 2, 72, 0, [50069, 10008, 50072, 50070, 50071]), (823, .if_icmp .eq 412, 1235, 0, 0, 0, []), (826, e0 (.iconst 0)), (827, e0 .ireturn), (828, e0 (.aload_n 1)), (829, e0 (.aload_n 0)), (830, e0 (.iload_n 3)), (831, e0 (.iconst 1)), (832, e0 .iadd), (833, e0 .iaload), (834, .invokevirtual 81, 90, 1, 62, 0, [30150, 10001, 30153, 30151, 30152]), (837, e0 (.aload_n 2)), (838, e0 (.aload_n 0)), (839, e0 (.iload_n 3)), (840, e0 (.iconst 1)), (841, e0 .iadd), (842, e0 .iaload), (843, .invokevirtual 84, 171, 1, 72, 0, [50105, 10008, 50108, 50106, 50107]), (846, .if_icmp .eq 389, 1235, 0, 0, 0, []), (849, e0 (.iconst 0)), (850, e0 .ireturn), (851, e0 (.aload_n 1)), (852, e0 (.aload_n 0)), (853, e0 (.iload_n 3)), (854, e0 (.iconst 1)), (855, e0 .iadd), (856, e0 .iaload), (857, e0 (.aload_n 0)), (858, e0 (.iload_n 3)), (859, e0 (.iconst 2))]),
  (898, [(860, e0 .iadd), (861, e0 .iaload), (862, .invokevirtual 85, 91, 2, 62, 0, [30156, 10001, 30159, 30157, 30158]), (865, e0 (.aload_n 2)), (866, e0 (.aload_n 0)), (867, e0 (.iload_n 3)), (868, e0 (.iconst 1)), (869, e0 .iadd), (870, e0 .iaload), (871, e0 (.aload_n 0)), (872, e0 (.iload_n 3)), (873, e0 (.iconst 2)), (874, e0 .iadd), (875, e0 .iaload), (876, .invokevirtual 88, 174, 2, 72, 0, [50109, 10008, 50112, 50110, 50111]), (879, .if_icmp .eq 356, 1235, 0, 0, 0, []), (882, e0 (.iconst 0)), (883, e0 .ireturn), (884, e0 (.aload_n 1)), (885, e0 (.aload_n 0)), (886, e0 (.iload_n 3)), (887, e0 (.iconst 1)), (888, e0 .iadd), (889, e0 .iaload), (890, .invokevirtual 89, 92, 1, 62, 0, [30179, 10001, 30182, 30180, 30181]), (893, e0 (.aload_n 2)), (894, e0 (.aload_n 0)), (895, e0 (.iload_n 3)), (896, e0 (.iconst 1)), (897, e0 .iadd)]),
  (938, [(898, e0 .iaload), (899, .invokevirtual 92, 175, 1, 72, 0, [50122, 10008, 50125, 50123, 50124]), (902, .if_icmp .eq 333, 1235, 0, 0, 0, []), (905, e0 (.iconst 0)), (906, e0 .ireturn), (907, e0 (.aload_n 1)), (908, e0 (.aload_n 0)), (909, e0 (.iload_n 3)), (910, e0 (.iconst 1)), (911, e0 .iadd), (912, e0 .iaload), (913, e0 (.aload_n 0)), (914, e0 (.iload_n 3)), (915, e0 (.iconst 2)), (916, e0 .iadd), (917, e0 .iaload), (918, .invokevirtual 93, 93, 2, 62, 0, [30184, 10001, 30187, 30185, 30186]), (921, e0 (.aload_n 2)), (922, e0 (.aload_n 0)), (923, e0 (.iload_n 3)), (924, e0 (.iconst 1)), (925, e0 .iadd), (926, e0 .iaload), (927, e0 (.aload_n 0)), (928, e0 (.iload_n 3)), (929, e0 (.iconst 2)), (930, e0 .iadd), (931, e0 .iaload), (932, .invokevirtual 96, 177, 2, 72, 0, [50126, 10008, 50129, 50127, 50128]), (935, .if_icmp .eq 300, 1235, 0, 0, 0, [])]),
  (974, [(938, e0 (.iconst 0)), (939, e0 .ireturn), (940, e0 (.aload_n 1)), (941, e0 (.aload_n 0)), (942, e0 (.iload_n 3)), (943, e0 (.iconst 1)), (944, e0 .iadd), (945, e0 .iaload), (946, .invokevirtual 97, 94, 1, 62, 0, [30200, 10001, 30203, 30201, 30202]), (949, e0 (.aload_n 2)), (950, e0 (.aload_n 0)), (951, e0 (.iload_n 3)), (952, e0 (.iconst 1)), (953, e0 .iadd), (954, e0 .iaload), (955, .invokevirtual 100, 178, 1, 72, 0, [50134, 10008, 50137, 50135, 50136]), (958, .if_icmp .eq 277, 1235, 0, 0, 0, []), (961, e0 (.iconst 0)), (962, e0 .ireturn), (963, e0 (.aload_n 1)), (964, e0 (.aload_n 0)), (965, e0 (.iload_n 3)), (966, e0 (.iconst 1)), (967, e0 .iadd), (968, e0 .iaload), (969, e0 (.aload_n 0)), (970, e0 (.iload_n 3)), (971, e0 (.iconst 2)), (972, e0 .iadd), (973, e0 .iaload)]),
  (1016, [(974, .invokevirtual 101, 95, 2, 62, 0, [30208, 10001, 30211, 30209, 30210]), (977, e0 (.aload_n 2)), (978, e0 (.aload_n 0)), (979, e0 (.iload_n 3)), (980, e0 (.iconst 1)), (981, e0 .iadd), (982, e0 .iaload), (983, e0 (.aload_n 0)), (984, e0 (.iload_n 3)), (985, e0 (.iconst 2)), (986, e0 .iadd), (987, e0 .iaload), (988, .invokevirtual 104, 179, 2, 72, 0, [50138, 10008, 50141, 50139, 50140]), (991, .if_icmp .eq 244, 1235, 0, 0, 0, []), (994, e0 (.iconst 0)), (995, e0 .ireturn), (996, e0 (.aload_n 1)), (997, .invokevirtual 105, 96, 0, 62, 0, [30216, 10001, 30219, 30217, 30218]), (1000, e0 (.aload_n 2)), (1001, .invokevirtual 109, 181, 0, 72, 0, [50142, 10008, 50145, 50143, 50144]), (1004, .if_icmp .eq 231, 1235, 0, 0, 0, []), (1007, e0 (.iconst 0)), (1008, e0 .ireturn), (1009, e0 (.aload_n 1)), (1010, e0 (.aload_n 0)), (1011, e0 (.iload_n 3)), (1012, e0 (.iconst 1)), (1013, e0 .iadd), (1014, e0 .iaload), (1015, e0 (.aload_n 0))]),
  (1048, [(1016, e0 (.iload_n 3)), (1017, e0 (.iconst 2)), (1018, e0 .iadd), (1019, e0 .iaload), (1020, e0 (.aload_n 0)), (1021, e0 (.iload_n 3)), (1022, e0 (.iconst 3)), (1023, e0 .iadd), (1024, e0 .iaload), (1025, e0 (.aload_n 0)), (1026, e0 (.iload_n 3)), (1027, e0 (.iconst 4)), (1028, e0 .iadd), (1029, e0 .iaload), (1030, .invokevirtual 110, 97, 4, 62, 0, [30221, 10001, 30224, 30222, 30223]), (1033, e0 (.aload_n 2)), (1034, e0 (.aload_n 0)), (1035, e0 (.iload_n 3)), (1036, e0 (.iconst 1)), (1037, e0 .iadd), (1038, e0 .iaload), (1039, e0 (.aload_n 0)), (1040, e0 (.iload_n 3)), (1041, e0 (.iconst 2)), (1042, e0 .iadd), (1043, e0 .iaload), (1044, e0 (.aload_n 0)), (1045, e0 (.iload_n 3)), (1046, e0 (.iconst 3)), (1047, e0 .iadd)]),
  (1088, [(1048, e0 .iaload), (1049, e0 (.aload_n 0)), (1050, e0 (.iload_n 3)), (1051, e0 (.iconst 4)), (1052, e0 .iadd), (1053, e0 .iaload), (1054, .invokevirtual 114, 182, 4, 72, 0, [50150, 10008, 50153, 50151, 50152]), (1057, .if_icmp .eq 178, 1235, 0, 0, 0, []), (1060, e0 (.iconst 0)), (1061, e0 .ireturn), (1062, e0 (.aload_n 1)), (1063, e0 (.aload_n 0)), (1064, e0 (.iload_n 3)), (1065, e0 (.iconst 1)), (1066, e0 .iadd), (1067, e0 .iaload), (1068, .invokevirtual 115, 98, 1, 62, 0, [30231, 10001, 30234, 30232, 30233]), (1071, e0 (.aload_n 2)), (1072, e0 (.aload_n 0)), (1073, e0 (.iload_n 3)), (1074, e0 (.iconst 1)), (1075, e0 .iadd), (1076, e0 .iaload), (1077, .invokevirtual 119, 184, 1, 72, 0, [50159, 10008, 50162, 50160, 50161]), (1080, e0 .lcmp), (1081, .ifCond .eq 154, 1235, 0, 0, 0, []), (1084, e0 (.iconst 0)), (1085, e0 .ireturn), (1086, e0 (.aload_n 1)), (1087, e0 (.aload_n 0))]),
  (1124, [(1088, e0 (.iload_n 3)), (1089, e0 (.iconst 1)), (1090, e0 .iadd), (1091, e0 .iaload), (1092, e0 (.aload_n 0)), (1093, e0 (.iload_n 3)), (1094, e0 (.iconst 2)), (1095, e0 .iadd), (1096, e0 .iaload), (1097, .invokevirtual 120, 99, 2, 62, 0, [40008, 10001, 40011, 40009, 40010]), (1100, e0 (.aload_n 2)), (1101, e0 (.aload_n 0)), (1102, e0 (.iload_n 3)), (1103, e0 (.iconst 1)), (1104, e0 .iadd), (1105, e0 .iaload), (1106, e0 (.aload_n 0)), (1107, e0 (.iload_n 3)), (1108, e0 (.iconst 2)), (1109, e0 .iadd), (1110, e0 .iaload), (1111, .invokevirtual 123, 185, 2, 72, 0, [50170, 10008, 50173, 50171, 50172]), (1114, .if_icmp .eq 121, 1235, 0, 0, 0, []), (1117, e0 (.iconst 0)), (1118, e0 .ireturn), (1119, e0 (.aload_n 1)), (1120, e0 (.aload_n 0)), (1121, e0 (.iload_n 3)), (1122, e0 (.iconst 1)), (1123, e0 .iadd)]),
  (1160, [(1124, e0 .iaload), (1125, e0 (.aload_n 0)), (1126, e0 (.iload_n 3)), (1127, e0 (.iconst 2)), (1128, e0 .iadd), (1129, e0 .iaload), (1130, .invokevirtual 124, 100, 2, 62, 0, [40017, 10001, 40020, 40018, 40019]), (1133, e0 (.aload_n 2)), (1134, e0 (.aload_n 0)), (1135, e0 (.iload_n 3)), (1136, e0 (.iconst 1)), (1137, e0 .iadd), (1138, e0 .iaload), (1139, e0 (.aload_n 0)), (1140, e0 (.iload_n 3)), (1141, e0 (.iconst 2)), (1142, e0 .iadd), (1143, e0 .iaload), (1144, .invokevirtual 128, 186, 2, 72, 0, [50175, 10008, 50178, 50176, 50177]), (1147, e0 .lcmp), (1148, .ifCond .eq 87, 1235, 0, 0, 0, []), (1151, e0 (.iconst 0)), (1152, e0 .ireturn), (1153, e0 (.aload_n 1)), (1154, e0 (.aload_n 0)), (1155, e0 (.iload_n 3)), (1156, e0 (.iconst 1)), (1157, e0 .iadd), (1158, e0 .iaload), (1159, e0 (.aload_n 0))]),
  (1204, [(1160, e0 (.iload_n 3)), (1161, e0 (.iconst 2)), (1162, e0 .iadd), (1163, e0 .iaload), (1164, .invokevirtual 129, 101, 2, 62, 0, [40022, 10001, 40025, 40023, 40024]), (1167, e0 (.aload_n 2)), (1168, e0 (.aload_n 0)), (1169, e0 (.iload_n 3)), (1170, e0 (.iconst 1)), (1171, e0 .iadd), (1172, e0 .iaload), (1173, e0 (.aload_n 0)), (1174, e0 (.iload_n 3)), (1175, e0 (.iconst 2)), (1176, e0 .iadd), (1177, e0 .iaload), (1178, .invokevirtual 132, 188, 2, 72, 0, [50179, 10008, 50182, 50180, 50181]), (1181, .if_icmp .eq 54, 1235, 0, 0, 0, []), (1184, e0 (.iconst 0)), (1185, e0 .ireturn), (1186, e0 (.aload_n 1)), (1187, .invokevirtual 133, 102, 0, 62, 0, [40030, 10001, 40033, 40031, 40032]), (1190, e0 (.aload_n 2)), (1191, .invokevirtual 136, 189, 0, 72, 0, [50188, 10008, 50191, 50189, 50190]), (1194, .if_icmp .eq 41, 1235, 0, 0, 0, []), (1197, e0 (.iconst 0)), (1198, e0 .ireturn), (1199, e0 (.aload_n 1)), (1200, .invokevirtual 137, 103, 0, 62, 0, [40035, 10001, 40038, 40036, 40037]), (1203, e0 (.aload_n 2))]),
  (100000, [(1204, .invokevirtual 140, 190, 0, 72, 0, [50192, 10008, 50195, 50193, 50194]), (1207, .if_icmp .eq 28, 1235, 0, 0, 0, []), (1210, e0 (.iconst 0)), (1211, e0 .ireturn), (1212, e0 (.aload_n 1)), (1213, e0 (.aload_n 0)), (1214, e0 (.iload_n 3)), (1215, e0 (.iconst 1)), (1216, e0 .iadd), (1217, e0 .iaload), (1218, .invokevirtual 141, 104, 1, 62, 0, [40039, 10001, 40042, 40040, 40041]), (1221, e0 (.aload_n 2)), (1222, e0 (.aload_n 0)), (1223, e0 (.iload_n 3)), (1224, e0 (.iconst 1)), (1225, e0 .iadd), (1226, e0 .iaload), (1227, .invokevirtual 144, 191, 1, 72, 0, [50196, 10008, 50199, 50197, 50198]), (1230, .if_icmp .eq 5, 1235, 0, 0, 0, []), (1233, e0 (.iconst 0)), (1234, e0 .ireturn), (1235, e0 (.iinc 3 8)), (1238, .goto (-1220), 18, 0, 0, 0, []), (1241, e0 (.iconst 1)), (1242, e0 .ireturn)])]
def in_194 : MI := (x, code, 4, some .boolean, 11, 600000, 7302250, 444, es_194)
def inL : MI := in_194
def mths : List MI := [in_0, in_1, in_2, in_3, in_4, in_5, in_6, in_7, in_8, in_9, in_10, in_11, in_12, in_13, in_14, in_15, in_16, in_17, in_18, in_19, in_20, in_21, in_22, in_23, in_24, in_25, in_26, in_27, in_28, in_29, in_30, in_31, in_32, in_33, in_34, in_35, in_36, in_37, in_38, in_39, in_40, in_41, in_42, in_43, in_44, in_45, in_46, in_47, in_48, in_49, in_50, in_51, in_52, in_53, in_54, in_55, in_56, in_57, in_58, in_59, in_60, in_61, in_62, in_63, in_64, in_65, in_66, in_67, in_68, in_69, in_70, in_71, in_72, in_73, in_74, in_75, in_76, in_77, in_78, in_79, in_80, in_81, in_82, in_83, in_84, in_85, in_86, in_87, in_88, in_89, in_90, in_91, in_92, in_93, in_94, in_95, in_96, in_97, in_98, in_99, in_100, in_101, in_102, in_103, in_104, in_105, in_106, in_107, in_108, in_109, in_110, in_111, in_112, in_113, in_114, in_115, in_116, in_117, in_118, in_119, in_120, in_121, in_122, in_123, in_124, in_125, in_126, in_127, in_128, in_129, in_130, in_131, in_132, in_133, in_134, in_135, in_136, in_137, in_138, in_139, in_140, in_141, in_142, in_143, in_144, in_145, in_146, in_147, in_148, in_149, in_150, in_151, in_152, in_153, in_154, in_155, in_156, in_157, in_158, in_159, in_160, in_161, in_162, in_163, in_164, in_165, in_166, in_167, in_168, in_169, in_170, in_171, in_172, in_173, in_174, in_175, in_176, in_177, in_178, in_179, in_180, in_181, in_182, in_183, in_184, in_185, in_186, in_187, in_188, in_189, in_190, in_191, in_192, in_193]
def mth (j : Nat) : Option MI := mths[j]?
end
section
/-! the small machine's worlds as the kit's worlds -/
/-- the tables' words that stay by themselves; the others (calls into nest mates, arrays of references) go along with the world -/
def TG : List Cond := lw_tbl.filter goodWord
theorem TG.in {w : Cond} (h : w ∈ lw_tbl) (hg : goodWord w = true) : w ∈ TG := List.mem_filter.mpr ⟨h, hg⟩
theorem TG.good : GoodIn TG TG := fun w hw => ⟨hw, good_of_word (List.mem_filter.mp hw).2⟩
def NWs (U : State) : Prop := (∀ (a : String) (i : Nat) (y : MethodName) (h : String), Cond.methodLinkNest a i y h ∈ lw_tbl → va_Nw (.methodLinkNest a i y h) U) ∧ ∀ C : String, Cond.arrayOver (.object C) ∈ lw_tbl → va_AO C U
theorem NWs.warm {s U : State} (hW : s.WarmedH U.vm) (h : NWs s) : NWs U := ⟨fun a i y g hw => va_Nw.warmM hW (h.1 a i y g hw), fun C hw => va_AO.moved hW.alike (h.2 C hw)⟩
def wsM (mi : MI) : List Cond := Cond.code mi.1 mi.2.1 mi.2.2.1 mi.2.2.2.1 :: TG
def rmM (mi : MI) : Room := { frames := mi.2.2.2.2.1, cells := mi.2.2.2.2.2.1, slots := mi.2.2.2.2.2.2.1, locals := mi.2.2.2.2.2.2.2.1 }
theorem TG.goodM {mi : MI} (h : Cond.code mi.1 mi.2.1 mi.2.2.1 mi.2.2.2.1 ∈ lw_tbl) : GoodIn TG (wsM mi) := fun w hw => (List.mem_cons.mp hw).elim (fun e => by rw [e]; exact TG.good _ (TG.in h rfl)) (TG.good w)
def TYS (cA : Nat → ClassId) : List (ClassId × FieldType) := [(cA 1, .int), (cA 2, .long), (cA 3, .object "HarbourTugs$Harbour"), (cA 4, .object "HarbourTugs$Ship"), (cA 5, .object "HarbourTugs$Tug")]
def fvT (ad : Nat → Nat → Nat) (S : DS) (F i j : Nat) : Value := cv ad (rdF S F i j (kdT F j))
def arC (ad : Nat → Nat → Nat) (S : DS) (F i : Nat) : (Nat → Int32) ⊕ (Nat → Int64) ⊕ (Nat → UInt32) ⊕ (Nat → UInt64) ⊕ (Nat → Option Nat) :=
  if F / 1000 = 1 then .inl (S.2.1 F i) else if F / 1000 = 2 then .inr (.inl (S.2.2.1 F i)) else .inr (.inr (.inr (.inr (fun j => if j < F % 1000 then (S.2.2.2 F i j).map (ad (arT F)) else none))))
def cellD (cA : Nat → ClassId) (ad : Nat → Nat → Nat) (S : DS) (F i : Nat) : va_E :=
  if F < 1000 then .inr (F, (List.range (nfT F)).map (fvT ad S F i)) else .inl (cA (F / 1000), F % 1000, arC ad S F i)
def wsD (cA : Nat → ClassId) (ad : Nat → Nat → Nat) (S : DS) : va_W := S.1.map (fun q => (ad q.1 q.2, cellD cA ad S q.1 q.2))
theorem wsD_at {cA : Nat → ClassId} {ad : Nat → Nat → Nat} {S : DS} {F i : Nat} (h : (F, i) ∈ S.1) : ∃ p : Nat, S.1[p]? = some (F, i) ∧ (wsD cA ad S)[p]? = some (ad F i, cellD cA ad S F i) := by
  obtain ⟨p, hp⟩ := List.getElem?_of_mem h
  exact ⟨p, hp, by simp [wsD, hp]⟩
/-- references point into the world; cells are numbered -/
def VS (S : DS) : Prop := ∀ q ∈ S.1, (q.1 < 8 ∨ (1000 ≤ q.1 ∧ q.1 < 6000)) ∧ q.2 < cntF S.1 q.1 ∧ (∀ j n k, q.1 < 1000 → kdT q.1 j = n + 2 → S.2.2.2 q.1 q.2 j = some k → (n, k) ∈ S.1) ∧ (∀ j k, 3000 ≤ q.1 → j < q.1 % 1000 → S.2.2.2 q.1 q.2 j = some k → (arT q.1, k) ∈ S.1)
def VA (scr : Prop) (S : DS) (v : AV) : Prop := ∀ a, v = .inr (some a) → a ∈ S.1 ∨ (scr ∧ a = (900, 0))
theorem VA.i {scr : Prop} {S : DS} {x : Int32} : VA scr S (aI x) := fun _ h => by cases h
theorem VA.l {scr : Prop} {S : DS} {x : Int64} : VA scr S (aL x) := fun _ h => by cases h
theorem VA.n {scr : Prop} {S : DS} : VA scr S aN := fun _ h => by cases h
theorem VA.r {scr : Prop} {S : DS} {F i : Nat} (h : (F, i) ∈ S.1) : VA scr S (aR F i) := fun a e => by cases e; exact Or.inl h
theorem VA.le {scr : Prop} {S S' : DS} {v : AV} (h : VA scr S v) (hs : ∀ a ∈ S.1, a ∈ S'.1) : VA scr S' v := fun a e => (h a e).imp (hs a) id
theorem cv_eq {scr : Prop} {S : DS} {v : AV} {ad ad' : Nat → Nat → Nat} (h : VA scr S v) (h1 : ∀ a ∈ S.1, ad' a.1 a.2 = ad a.1 a.2) (h2 : scr → ad' 900 0 = ad 900 0) : cv ad' v = cv ad v := by
  obtain (x | x) | o := v
  · rfl
  · rfl
  · cases o with
    | none => rfl
    | some a =>
      show Value.ref _ = Value.ref _
      rcases h a rfl with h | ⟨h, e⟩
      · rw [h1 a h]
      · rw [e, h2 h]
/-- a cell's picture hangs on its own row, and on the addresses of what it points to -/
theorem cellD_eq {cA : Nat → ClassId} {ad ad' : Nat → Nat → Nat} {S S' : DS} {F i : Nat} (h1 : S'.2.1 F i = S.2.1 F i) (h2 : S'.2.2.1 F i = S.2.2.1 F i) (h3 : S'.2.2.2 F i = S.2.2.2 F i)
    (hf : ∀ j n k, F < 1000 → kdT F j = n + 2 → S.2.2.2 F i j = some k → ad' n k = ad n k) (ha : ∀ j k, 3000 ≤ F → j < F % 1000 → S.2.2.2 F i j = some k → ad' (arT F) k = ad (arT F) k) : cellD cA ad' S' F i = cellD cA ad S F i := by
  unfold cellD
  by_cases hF : F < 1000
  · rw [if_pos hF, if_pos hF]
    congr 2
    refine List.map_congr_left (fun j _ => ?_)
    unfold fvT
    cases hk : kdT F j with
    | zero => simp [rdF, h1, cv]
    | succ n =>
      cases n with
      | zero => simp [rdF, h2, cv]
      | succ n =>
        simp only [rdF, h3]
        cases hq : S.2.2.2 F i j with
        | none => rfl
        | some k =>
          show Value.ref _ = Value.ref _
          rw [hf j n k hF hk hq]
  · rw [if_neg hF, if_neg hF]
    congr 3
    unfold arC
    by_cases e1 : F / 1000 = 1
    · rw [if_pos e1, if_pos e1, h1]
    · rw [if_neg e1, if_neg e1]
      by_cases e2 : F / 1000 = 2
      · rw [if_pos e2, if_pos e2, h2]
      · rw [if_neg e2, if_neg e2, h3]
        congr 4
        funext j
        by_cases hj : j < F % 1000
        · rw [if_pos hj, if_pos hj]
          cases hq : S.2.2.2 F i j with
          | none => rfl
          | some k =>
            show some _ = some _
            rw [ha j k (by omega) hj hq]
        · rw [if_neg hj, if_neg hj]
/-- one cell is written -/
theorem wsD_set {cA : Nat → ClassId} {ad : Nat → Nat → Nat} {S S' : DS} {A : Nat → Prop} {F i p : Nat} (hD : va_D A (wsD cA ad S)) (hp : S.1[p]? = some (F, i)) (h0 : S'.1 = S.1)
    (hr : ∀ F' i', ¬ (F' = F ∧ i' = i) → S'.2.1 F' i' = S.2.1 F' i' ∧ S'.2.2.1 F' i' = S.2.2.1 F' i' ∧ S'.2.2.2 F' i' = S.2.2.2 F' i') : (wsD cA ad S).set p (ad F i, cellD cA ad S' F i) = wsD cA ad S' := by
  have hl : p < S.1.length := (List.getElem?_eq_some_iff.mp hp).1
  refine List.ext_getElem? (fun k => ?_)
  by_cases hk : k = p
  · subst hk
    rw [List.getElem?_set_self (by simpa [wsD] using hl)]
    simp [wsD, h0, hp]
  · rw [List.getElem?_set_ne (Ne.symm hk)]
    simp only [wsD, List.getElem?_map, h0]
    cases hq : S.1[k]? with
    | none => rfl
    | some q =>
      obtain ⟨F', i'⟩ := q
      have hne : ¬ (F' = F ∧ i' = i) := by
        intro hh
        obtain ⟨rfl, rfl⟩ := hh
        have e1 : (wsD cA ad S)[k]? = some (ad F' i', cellD cA ad S F' i') := by simp [wsD, hq]
        have e2 : (wsD cA ad S)[p]? = some (ad F' i', cellD cA ad S F' i') := by simp [wsD, hp]
        exact hk (hD.1 k p _ _ e1 e2 rfl)
      obtain ⟨g1, g2, g3⟩ := hr F' i' hne
      show some (ad F' i', cellD cA ad S F' i') = some (ad F' i', cellD cA ad S' F' i')
      rw [cellD_eq g1 g2 g3 (fun _ _ _ _ _ _ => rfl) (fun _ _ _ _ _ => rfl)]
/-- a cell is new -/
theorem wsD_new {cA : Nat → ClassId} {ad : Nat → Nat → Nat} {S : DS} {F q : Nat} (hV : VS S) :
    wsD cA (fun F' i' => if F' = F ∧ i' = cntF S.1 F then q else ad F' i') (sNew S F (cntF S.1 F)) = wsD cA ad S ++ [(q, cellD cA (fun F' i' => if F' = F ∧ i' = cntF S.1 F then q else ad F' i') (sNew S F (cntF S.1 F)) F (cntF S.1 F))] := by
  have hne : ∀ a ∈ S.1, ¬ (a.1 = F ∧ a.2 = cntF S.1 F) := by
    intro a ha hh
    have h1 := (hV a ha).2.1
    rw [hh.1] at h1
    omega
  simp only [wsD, sNew, List.map_append, List.map_cons, List.map_nil]
  congr 1
  · refine List.map_congr_left (fun a ha => ?_)
    have hn := hne a ha
    rw [if_neg hn]
    congr 1
    refine cellD_eq (by simp only [if_neg hn]) (by simp only [if_neg hn]) (by simp only [if_neg hn]) (fun j n k h1 h2 h3 => ?_) (fun j k h1 h0 h3 => ?_)
    · exact if_neg (hne (n, k) ((hV a ha).2.2.1 j n k h1 h2 h3))
    · exact if_neg (hne (arT a.1, k) ((hV a ha).2.2.2 j k h1 h0 h3))
theorem cntF_new (L : List (Nat × Nat)) (F G i : Nat) : cntF (L ++ [(F, i)]) G = cntF L G + if F = G then 1 else 0 := by
  unfold cntF
  rw [List.filter_append, List.length_append]
  by_cases h : F = G
  · subst h
    simp
  · simp [h]
theorem VS.new {S : DS} {F : Nat} (hV : VS S) (hF : F < 8 ∨ (1000 ≤ F ∧ F < 6000)) : VS (sNew S F (cntF S.1 F)) := by
  have hne : ∀ a ∈ S.1, ¬ (a.1 = F ∧ a.2 = cntF S.1 F) := by
    intro a ha hh
    have h1 := (hV a ha).2.1
    rw [hh.1] at h1
    omega
  intro a ha
  rcases List.mem_append.mp ha with h | h
  · obtain ⟨h1, h2, h3, h4⟩ := hV a h
    have hn := hne a h
    refine ⟨h1, ?_, fun j n k g1 g2 g3 => ?_, fun j k g1 g0 g3 => ?_⟩
    · show a.2 < cntF (S.1 ++ [(F, cntF S.1 F)]) a.1
      rw [cntF_new]
      omega
    · simp only [sNew, if_neg hn] at g3
      exact List.mem_append_left _ (h3 j n k g1 g2 g3)
    · simp only [sNew, if_neg hn] at g3
      exact List.mem_append_left _ (h4 j k g1 g0 g3)
  · rw [List.mem_singleton.mp h]
    refine ⟨hF, ?_, fun j n k g1 g2 g3 => ?_, fun j k g1 g0 g3 => ?_⟩
    · show cntF S.1 F < cntF (S.1 ++ [(F, cntF S.1 F)]) F
      rw [cntF_new]
      simp
    · simp [sNew] at g3
    · simp [sNew] at g3
theorem slz_new (S : DS) (F i : Nat) : slz (sNew S F i).1 = slz S.1 + szF F := by
  simp [slz, sNew]
/-- locals -/
def LV (ad : Nat → Nat → Nat) (ls : Array Slot) (n : Nat) (loc : List (Option AV)) : Prop := ls.size = n ∧ lv_wf ls ∧ ∀ (i : Nat) (v : AV), loc[i]? = some (some v) → ls[i]? = some (.val (cv ad v))
theorem aCat_cv (ad : Nat → Nat → Nat) (v : AV) : (cv ad v).category = aCat v := by
  obtain (x | x) | o := v
  · rfl
  · rfl
  · cases o <;> rfl
theorem aCats_cv (ad : Nat → Nat → Nat) (st : List AV) : ((st.map (cv ad)).map fun v => v.category).sum = aCats st := by
  unfold aCats
  rw [List.map_map]
  congr 2
  funext v
  exact aCat_cv ad v
def lvl (ad : Nat → Nat → Nat) (loc : List (Option AV)) : List (Nat × Value) := (List.range loc.length).filterMap (fun i => (loc.getD i none).map (fun v => (i, cv ad v)))
theorem lvl_mem {ad : Nat → Nat → Nat} {loc : List (Option AV)} {q : Nat × Value} : q ∈ lvl ad loc ↔ ∃ v, loc[q.1]? = some (some v) ∧ q.2 = cv ad v := by
  unfold lvl
  simp only [List.mem_filterMap, List.mem_range, Option.map_eq_some_iff]
  constructor
  · rintro ⟨i, hi, v, hv, rfl⟩
    refine ⟨v, ?_, rfl⟩
    rw [List.getD_eq_getElem?_getD] at hv
    cases hq : loc[i]? with
    | none => rw [hq] at hv; cases hv
    | some o => rw [hq] at hv; simp at hv; rw [hv]
  · rintro ⟨v, hv, hq⟩
    refine ⟨q.1, (List.getElem?_eq_some_iff.mp hv).1, v, ?_, by rw [← hq]⟩
    rw [List.getD_eq_getElem?_getD, hv]
    rfl
theorem LV.has {ad : Nat → Nat → Nat} {ls : Array Slot} {n : Nat} {loc : List (Option AV)} (h : LV ad ls n loc) : lv_has ls n (lvl ad loc) := by
  refine ⟨h.1, h.2.1, fun q hq => ?_⟩
  obtain ⟨v, h1, h2⟩ := lvl_mem.mp hq
  rw [h2]
  exact h.2.2 q.1 v h1
theorem klL_at {loc : List (Option AV)} {i j : Nat} {v : AV} (h : (klL loc i)[j]? = some (some v)) : loc[j]? = some (some v) ∧ ¬ (j + 1 = i ∧ aCat v = 2) := by
  cases i with
  | zero => exact ⟨h, fun q => by omega⟩
  | succ i =>
    by_cases hj : j = i
    · subst hj
      unfold klL at h
      by_cases hl : j < loc.length
      · rw [List.getElem?_set_self hl] at h
        have h2 := Option.some.inj h
        rw [List.getD_eq_getElem?_getD] at h2
        cases hq : loc[j]? with
        | none => rw [hq] at h2; cases h2
        | some o =>
          rw [hq] at h2
          cases o with
          | none => cases h2
          | some u =>
            obtain (x | x) | o := u
            · have : v = _ := (Option.some.inj h2).symm
              subst this
              exact ⟨rfl, fun q => by cases q.2⟩
            · cases h2
            · have : v = _ := (Option.some.inj h2).symm
              subst this
              exact ⟨rfl, fun q => by cases q.2⟩
      · rw [List.getElem?_eq_none (by simpa using hl)] at h
        cases h
    · unfold klL at h
      rw [List.getElem?_set_ne (fun e => hj e.symm)] at h
      exact ⟨h, fun q => hj (by omega)⟩
theorem klL_len (loc : List (Option AV)) (i : Nat) : (klL loc i).length = loc.length := by
  cases i <;> simp [klL]
theorem lst1_at {loc l' : List (Option AV)} {i : Nat} {u : AV} (h : lst1 loc i u = some l') {j : Nat} {v : AV} (hj : l'[j]? = some (some v)) : (j = i ∧ v = u) ∨ (j ≠ i ∧ loc[j]? = some (some v) ∧ ¬ (j + 1 = i ∧ aCat v = 2)) := by
  unfold lst1 at h
  cases hb : Nat.blt i loc.length with
  | false => rw [hb] at h; cases h
  | true =>
    rw [hb] at h
    have hl : i < loc.length := by simpa [Nat.blt_eq] using hb
    have e := Option.some.inj h
    subst e
    by_cases hji : j = i
    · subst hji
      rw [List.getElem?_set_self (by rw [klL_len]; exact hl)] at hj
      exact Or.inl ⟨rfl, (Option.some.inj (Option.some.inj hj)).symm⟩
    · rw [List.getElem?_set_ne (Ne.symm hji)] at hj
      exact Or.inr ⟨hji, klL_at hj⟩
theorem lst1_lt {loc l' : List (Option AV)} {i : Nat} {u : AV} (h : lst1 loc i u = some l') : i < loc.length := by
  unfold lst1 at h
  cases hb : Nat.blt i loc.length with
  | false => rw [hb] at h; cases h
  | true => simpa [Nat.blt_eq] using hb
theorem lst2_lt {loc l' : List (Option AV)} {i : Nat} {u : AV} (h : lst2 loc i u = some l') : i + 1 < loc.length := by
  unfold lst2 at h
  cases hb : Nat.blt (i + 1) loc.length with
  | false => rw [hb] at h; cases h
  | true => simpa [Nat.blt_eq] using hb
theorem lst2_at {loc l' : List (Option AV)} {i : Nat} {u : AV} (h : lst2 loc i u = some l') {j : Nat} {v : AV} (hj : l'[j]? = some (some v)) : (j = i ∧ v = u) ∨ (j ≠ i ∧ j ≠ i + 1 ∧ loc[j]? = some (some v) ∧ ¬ (j + 1 = i ∧ aCat v = 2)) := by
  have hl := lst2_lt h
  unfold lst2 at h
  rw [show Nat.blt (i + 1) loc.length = true by simpa [Nat.blt_eq] using hl] at h
  have e := Option.some.inj h
  subst e
  by_cases hj1 : j = i + 1
  · subst hj1
    rw [List.getElem?_set_self (by simp [klL_len]; exact hl)] at hj
    cases hj
  · rw [List.getElem?_set_ne (Ne.symm hj1)] at hj
    by_cases hji : j = i
    · subst hji
      rw [List.getElem?_set_self (by rw [klL_len]; omega)] at hj
      exact Or.inl ⟨rfl, (Option.some.inj (Option.some.inj hj)).symm⟩
    · rw [List.getElem?_set_ne (Ne.symm hji)] at hj
      exact Or.inr ⟨hji, hj1, klL_at hj⟩
/-- behind a store of one word -/
theorem LV.st1 {ad : Nat → Nat → Nat} {ls' : Array Slot} {n i : Nat} {loc l' : List (Option AV)} {u : AV} (h : lst1 loc i u = some l') (hh : lv_has ls' n ((i, cv ad u) :: (lvl ad loc).filter (fun q => !(q.1 == i) && !(q.1 + 1 == i && q.2.category == 2)))) : LV ad ls' n l' := by
  refine ⟨hh.1, hh.2.1, fun j v hj => ?_⟩
  rcases lst1_at h hj with ⟨rfl, rfl⟩ | ⟨h1, h2, h3⟩
  · exact hh.2.2 _ List.mem_cons_self
  · refine hh.2.2 (j, cv ad v) (List.mem_cons_of_mem _ (List.mem_filter.mpr ⟨lvl_mem.mpr ⟨v, h2, rfl⟩, ?_⟩))
    simp only [aCat_cv]
    simp only [Bool.and_eq_true, Bool.not_eq_true', beq_eq_false_iff_ne, ne_eq, Bool.and_eq_false_iff]
    refine ⟨h1, ?_⟩
    by_cases g : j + 1 = i
    · exact Or.inr (fun q => h3 ⟨g, q⟩)
    · exact Or.inl g
theorem LV.st2 {ad : Nat → Nat → Nat} {ls' : Array Slot} {n i : Nat} {loc l' : List (Option AV)} {u : AV} (h : lst2 loc i u = some l') (hh : lv_has ls' n ((i, cv ad u) :: (lvl ad loc).filter (fun q => !(q.1 == i) && (!(q.1 == i + 1) && !(q.1 + 1 == i && q.2.category == 2))))) : LV ad ls' n l' := by
  refine ⟨hh.1, hh.2.1, fun j v hj => ?_⟩
  rcases lst2_at h hj with ⟨rfl, rfl⟩ | ⟨h1, h1', h2, h3⟩
  · exact hh.2.2 _ List.mem_cons_self
  · refine hh.2.2 (j, cv ad v) (List.mem_cons_of_mem _ (List.mem_filter.mpr ⟨lvl_mem.mpr ⟨v, h2, rfl⟩, ?_⟩))
    simp only [aCat_cv]
    simp only [Bool.and_eq_true, Bool.not_eq_true', beq_eq_false_iff_ne, ne_eq, Bool.and_eq_false_iff]
    refine ⟨h1, h1', ?_⟩
    by_cases g : j + 1 = i
    · exact Or.inr (fun q => h3 ⟨g, q⟩)
    · exact Or.inl g
theorem LV.ad {scr : Prop} {S : DS} {ad ad' : Nat → Nat → Nat} {ls : Array Slot} {n : Nat} {loc : List (Option AV)} (h : LV ad ls n loc) (hv : ∀ (i : Nat) v, loc[i]? = some (some v) → VA scr S v) (h1 : ∀ a ∈ S.1, ad' a.1 a.2 = ad a.1 a.2) (h2 : scr → ad' 900 0 = ad 900 0) : LV ad' ls n loc :=
  ⟨h.1, h.2.1, fun i v hi => by rw [cv_eq (hv i v hi) h1 h2]; exact h.2.2 i v hi⟩
theorem cvs_eq {scr : Prop} {S : DS} {st : List AV} {ad ad' : Nat → Nat → Nat} (h : ∀ v ∈ st, VA scr S v) (h1 : ∀ a ∈ S.1, ad' a.1 a.2 = ad a.1 a.2) (h2 : scr → ad' 900 0 = ad 900 0) : st.map (cv ad') = st.map (cv ad) :=
  List.map_congr_left (fun v hv => cv_eq (h v hv) h1 h2)
/-- the locals at a method's entry -/
theorem locG_at (ad : Nat → Nat → Nat) : ∀ (as : List AV) (k i : Nat) (v : AV), (locG as)[i]? = some (some v) → (k + i, cv ad v) ∈ lv_args k (as.map (cv ad))
  | [], k, i, v, h => by simp [locG] at h
  | u :: as, k, i, v, h => by
    have hc := aCat_cv ad u
    obtain (x | x) | o := u
    · cases i with
      | zero =>
        have e : v = _ := (Option.some.inj (Option.some.inj h)).symm
        subst e
        exact List.mem_cons_self
      | succ i =>
        have h2 := locG_at ad as (k + 1) i v h
        refine List.mem_cons_of_mem _ ?_
        rw [show k + (i + 1) = k + 1 + i by omega]
        exact h2
    · cases i with
      | zero =>
        have e : v = _ := (Option.some.inj (Option.some.inj h)).symm
        subst e
        exact List.mem_cons_self
      | succ i =>
        cases i with
        | zero => cases h
        | succ i =>
          have h2 := locG_at ad as (k + 2) i v h
          refine List.mem_cons_of_mem _ ?_
          rw [show k + (i + 1 + 1) = k + 2 + i by omega]
          exact h2
    · cases i with
      | zero =>
        have e : v = _ := (Option.some.inj (Option.some.inj h)).symm
        subst e
        exact List.mem_cons_self
      | succ i =>
        have h2 := locG_at ad as (k + 1) i v h
        refine List.mem_cons_of_mem _ ?_
        rw [show k + (i + 1) = k + 1 + i by omega]
        have hc1 : (cv ad (.inr o)).category = 1 := hc.trans rfl
        show (k + 1 + i, cv ad v) ∈ lv_args (if (cv ad (.inr o)).category = 2 then k + 2 else k + 1) (as.map (cv ad))
        rw [hc1]
        exact h2
theorem locG_len (ad : Nat → Nat → Nat) : ∀ as : List AV, (lg_sl (as.map (cv ad))).length = (locG as).length
  | [] => rfl
  | u :: as => by
    have ih := locG_len ad as
    have hc := aCat_cv ad u
    obtain (x | x) | o := u
    · show (lg_sl (.int x :: as.map (cv ad))).length = (locG as).length + 1
      rw [← ih]
      simp [lg_sl, Value.category]
    · show (lg_sl (.long x :: as.map (cv ad))).length = (locG as).length + 2
      rw [← ih]
      simp [lg_sl, Value.category]
    · have hc1 : (cv ad (.inr o)).category = 1 := hc.trans rfl
      show (lg_sl (cv ad (.inr o) :: as.map (cv ad))).length = (locG as).length + 1
      rw [← ih]
      simp [lg_sl, hc1]
theorem LV.entry (ad : Nat → Nat → Nat) {n : Nat} {as : List AV} (h : (locG as).length ≤ n) : LV ad ((lg_sl (as.map (cv ad)) ++ List.replicate (n - (lg_sl (as.map (cv ad))).length) Slot.unset).toArray) n (locA n as) := by
  have h1 := lv_entry (as.map (cv ad)) (n := n) (by rw [locG_len]; exact h)
  refine ⟨h1.1, h1.2.1, fun i v hi => ?_⟩
  unfold locA at hi
  by_cases hl : i < (locG as).length
  · rw [List.getElem?_append_left hl] at hi
    have h2 := locG_at ad as 0 i v hi
    rw [Nat.zero_add] at h2
    exact h1.2.2 _ h2
  · rw [List.getElem?_append_right (by omega)] at hi
    have := List.eq_of_mem_replicate (List.mem_of_getElem? hi)
    cases this
end
section
/-! every run of the small machine is one of the kit's -/
def BU (D : va_G) (cA : Nat → ClassId) (ad : Nat → Nat → Nat) (S : DS) (cap : Nat × Nat) (A : Nat → Prop) (u : DS × (Nat → Nat → Nat)) (t : State) : Prop :=
  va_P D vwCl (wsD cA u.2 u.1) t.heap ∧ va_D A (wsD cA u.2 u.1) ∧ VS u.1 ∧ (∃ e, u.1.1 = S.1 ++ e) ∧ (∀ a ∈ S.1, u.2 a.1 a.2 = ad a.1 a.2) ∧ u.2 900 0 = ad 900 0 ∧ u.1.1.length = cap.1 ∧ slz u.1.1 = cap.2
def QM (rt : Option FieldType) (Ψ : Option AV → DS → Prop) (D : va_G) (cA : Nat → ClassId) (ad : Nat → Nat → Nat) (S : DS) (cap : Nat × Nat) (A : Nat → Prop) : Array Value → State → Outcome → State → Prop :=
  match rt with
  | none => va_Qv (fun u : DS × (Nat → Nat → Nat) => Ψ none u.1) (BU D cA ad S cap A) A
  | some .long => va_Ql (fun (r : Int64) (u : DS × (Nat → Nat → Nat)) => Ψ (some (aL r)) u.1) (BU D cA ad S cap A) A
  | some (.object _) => va_Qq (fun (r : Option Nat) (u : DS × (Nat → Nat → Nat)) => ∃ o : Option (Nat × Nat), r = o.map (fun a => u.2 a.1 a.2) ∧ (∀ a, o = some a → a ∈ u.1.1) ∧ Ψ (some (.inr o)) u.1) (BU D cA ad S cap A) A
  | some _ => va_Qi (fun (r : Int32) (u : DS × (Nat → Nat → Nat)) => Ψ (some (aI r)) u.1) (BU D cA ad S cap A) A
/-- a method's contract: all methods at once -/
def Ctr (l : Launch) (D : va_G) (cA : Nat → ClassId) (R' : RC) : Prop :=
  ∀ (x : Nat) (mi : MI), mth x = some mi → ∀ (as : List AV) (S : DS) (Ψ : Option AV → DS → Prop), R' x as S Ψ → VS S → (∀ v ∈ as, VA False S v) → ∀ (ad : Nat → Nat → Nat) (sz : Nat),
    Met l mi.1 (wsM mi) (rmM mi) (va_Pc (as.map (cv ad)) (fun U => U.heap.size = sz ∧ va_P D vwCl (wsD cA ad S) U.heap ∧ va_K D vwCl (TYS cA) U ∧ va_D (fun _ => True) (wsD cA ad S) ∧ NWs U)) (QM mi.2.2.2.1 Ψ D cA ad S (capOf mi S) (va_A (wsD cA ad S) sz)) mi.2.2.2.2.2.1 mi.2.2.2.2.2.2.1 (va_A (wsD cA ad S) sz)
theorem fm {α : Type} {P : α → Prop} {a : α} {l : List α} (h : P a) (hl : ∀ v ∈ l, P v) : ∀ v ∈ a :: l, P v := List.forall_mem_cons.mpr ⟨h, hl⟩
theorem fmt {α : Type} {P : α → Prop} {a : α} {l : List α} (h : ∀ v ∈ a :: l, P v) : ∀ v ∈ l, P v := (List.forall_mem_cons.mp h).2
theorem fmh {α : Type} {P : α → Prop} {a : α} {l : List α} (h : ∀ v ∈ a :: l, P v) : P a := (List.forall_mem_cons.mp h).1
theorem rIns_dummy : True := trivial
def rIns : Option AV → Instr
  | none => .return_
  | some (.inl (.inl _)) => .ireturn
  | some (.inl (.inr _)) => .lreturn
  | some (.inr _) => .areturn
theorem VAo {scr : Prop} {S : DS} {F : Nat} {o : Option Nat} (h : ∀ k, o = some k → (F, k) ∈ S.1) : VA scr S (.inr (o.map (fun q => (F, q)))) := by
  intro a e
  cases o with
  | none => cases e
  | some k =>
    have e2 : (some (F, k) : Option (Nat × Nat)) = some a := Sum.inr.inj e
    have e3 : (F, k) = a := Option.some.inj e2
    exact Or.inl (by rw [← e3]; exact h k rfl)
/-- facts of a class by its family -/
def dfK : Nat → Value
  | 0 => .int 0
  | 1 => .long 0
  | _ => .null
def clsF (q : vw_C) (F : Nat) : Prop := (∀ w ∈ u_ws q.1 q.2.1 q.2.2, w ∈ TG) ∧ nfT F = q.2.2 ∧ (∀ a, a < q.2.2 → ∀ b, b < q.2.2 → a ≠ b → (q.2.1 a).2.1 ≠ (q.2.1 b).2.1) ∧ ∃ ty : Nat → FieldType, (∀ k, k < q.2.2 → parseFieldDescriptor (q.2.1 k).2.2.1 = some (ty k)) ∧ ∀ k, k < q.2.2 → defaultValue (ty k) = dfK (kdT F k)
set_option maxRecDepth 100000 in
theorem clsF_0 : clsF (RX0, TX0, 2) 0 := ⟨fun w hw => TG.in (by revert w; decide +kernel) (by revert w; decide +kernel), by decide +kernel, nmX0, tyX0, tyX0_ok, by decide +kernel⟩
set_option maxRecDepth 100000 in
theorem clsF_1 : clsF (RX1, TX1, 16) 1 := ⟨fun w hw => TG.in (by revert w; decide +kernel) (by revert w; decide +kernel), by decide +kernel, nmX1, tyX1, tyX1_ok, by decide +kernel⟩
set_option maxRecDepth 100000 in
theorem clsF_2 : clsF (RX2, TX2, 7) 2 := ⟨fun w hw => TG.in (by revert w; decide +kernel) (by revert w; decide +kernel), by decide +kernel, nmX2, tyX2, tyX2_ok, by decide +kernel⟩
set_option maxRecDepth 100000 in
theorem clsF_3 : clsF (RX3, TX3, 5) 3 := ⟨fun w hw => TG.in (by revert w; decide +kernel) (by revert w; decide +kernel), by decide +kernel, nmX3, tyX3, tyX3_ok, by decide +kernel⟩
set_option maxRecDepth 100000 in
theorem clsF_4 : clsF (RX4, TX4, 9) 4 := ⟨fun w hw => TG.in (by revert w; decide +kernel) (by revert w; decide +kernel), by decide +kernel, nmX4, tyX4, tyX4_ok, by decide +kernel⟩
set_option maxRecDepth 100000 in
theorem clsF_5 : clsF (RX5, TX5, 10) 5 := ⟨fun w hw => TG.in (by revert w; decide +kernel) (by revert w; decide +kernel), by decide +kernel, nmX5, tyX5, tyX5_ok, by decide +kernel⟩
set_option maxRecDepth 100000 in
theorem clsF_6 : clsF (RX6, TX6, 6) 6 := ⟨fun w hw => TG.in (by revert w; decide +kernel) (by revert w; decide +kernel), by decide +kernel, nmX6, tyX6, tyX6_ok, by decide +kernel⟩
set_option maxRecDepth 100000 in
theorem clsF_7 : clsF (RX7, TX7, 18) 7 := ⟨fun w hw => TG.in (by revert w; decide +kernel) (by revert w; decide +kernel), by decide +kernel, nmX7, tyX7, tyX7_ok, by decide +kernel⟩
theorem clsF_all {F : Nat} {q : vw_C} (h : vwCl[F]? = some q) : clsF q F := by
  match F, h with
  | 0, h => cases h; exact clsF_0
  | 1, h => cases h; exact clsF_1
  | 2, h => cases h; exact clsF_2
  | 3, h => cases h; exact clsF_3
  | 4, h => cases h; exact clsF_4
  | 5, h => cases h; exact clsF_5
  | 6, h => cases h; exact clsF_6
  | 7, h => cases h; exact clsF_7
  | F + 8, h => simp [vwCl] at h
section SIM
variable {p : Program} {l : Launch} {e : Env} {R : Room} {s : State} {m : MethodId} {args : Array Value} {below : List Frame} {meth : Method} {c : Code} {D : va_G} {cA : Nat → ClassId} {A : Nat → Prop} {H0 : Heap} {scr : Prop} {b : Nat × List (Nat × Nat) × (Nat → Nat → Nat)} {nL : Nat} {c0 cap : Nat × Nat} {Q : State → Prop} {mi : MI}
/-- what stays along a run: where the script is, the old cells' addresses -/
def SCI (scr : Prop) (b : Nat × List (Nat × Nat) × (Nat → Nat → Nat)) (ad : Nat → Nat → Nat) (L : List (Nat × Nat)) : Prop := (scr → ad 900 0 = b.1) ∧ (∃ ex, L = b.2.1 ++ ex) ∧ (∀ a ∈ b.2.1, ad a.1 a.2 = b.2.2 a.1 a.2) ∧ ad 900 0 = b.2.2 900 0
theorem SCI.mono {b : Nat × List (Nat × Nat) × (Nat → Nat → Nat)} {ad ad' : Nat → Nat → Nat} {L L' : List (Nat × Nat)} (h : SCI scr b ad L) (h1 : ∃ ex, L' = L ++ ex) (h2 : ∀ a ∈ L, ad' a.1 a.2 = ad a.1 a.2) (h3 : ad' 900 0 = ad 900 0) : SCI scr b ad' L' := by
  obtain ⟨g1, ⟨ex, g2⟩, g3, g4⟩ := h
  obtain ⟨ex', h1⟩ := h1
  refine ⟨fun z => h3.trans (g1 z), ⟨ex ++ ex', by rw [h1, g2, List.append_assoc]⟩, fun a ha => (h2 a (by rw [g2]; exact List.mem_append_left _ ha)).trans (g3 a ha), h3.trans g4⟩
def SB (p : Program) (l : Launch) (e : Env) (R : Room) (s : State) (m : MethodId) (args : Array Value) (below : List Frame) (meth : Method) (c : Code) (D : va_G) (cA : Nat → ClassId) (A : Nat → Prop) (H0 : Heap) (scr : Prop) (b : Nat × List (Nat × Nat) × (Nat → Nat → Nat)) (nL : Nat) (c0 : Nat × Nat) (Q : State → Prop) : KC := fun pc loc st S =>
  ∀ (ad : Nat → Nat → Nat) (H : Heap) (locs : List Loc) (cells slots : Nat) (ls : Array Slot), va_P D vwCl (wsD cA ad S) H → va_D A (wsD cA ad S) → va_S A H0 H locs → VS S → SCI scr b ad S.1 → LV ad ls nL loc → loc.length = nL → (∀ v ∈ st, VA scr S v) → (∀ (i : Nat) v, loc[i]? = some (some v) → VA scr S v) → cells + c0.1 = S.1.length → slots + c0.2 = slz S.1 →
    W p l e R s m args below meth c H locs cells slots Q (F0 m pc ls (st.map (cv ad)))
theorem lst1_len {loc l' : List (Option AV)} {i : Nat} {u : AV} (h : lst1 loc i u = some l') : l'.length = loc.length := by
  have hl := lst1_lt h
  unfold lst1 at h
  rw [show Nat.blt i loc.length = true by simpa [Nat.blt_eq] using hl] at h
  have e := Option.some.inj h
  rw [← e]
  simp [klL_len]
theorem lst2_len {loc l' : List (Option AV)} {i : Nat} {u : AV} (h : lst2 loc i u = some l') : l'.length = loc.length := by
  have hl := lst2_lt h
  unfold lst2 at h
  rw [show Nat.blt (i + 1) loc.length = true by simpa [Nat.blt_eq] using hl] at h
  have e := Option.some.inj h
  rw [← e]
  simp [klL_len]
theorem lst1_va {S : DS} {loc l' : List (Option AV)} {i : Nat} {u : AV} (h : lst1 loc i u = some l') (hu : VA scr S u) (hv : ∀ (i : Nat) v, loc[i]? = some (some v) → VA scr S v) : ∀ (i : Nat) v, l'[i]? = some (some v) → VA scr S v := by
  intro j v hj
  rcases lst1_at h hj with ⟨-, rfl⟩ | ⟨-, h2, -⟩
  · exact hu
  · exact hv _ _ h2
theorem lst2_va {S : DS} {loc l' : List (Option AV)} {i : Nat} {u : AV} (h : lst2 loc i u = some l') (hu : VA scr S u) (hv : ∀ (i : Nat) v, loc[i]? = some (some v) → VA scr S v) : ∀ (i : Nat) v, l'[i]? = some (some v) → VA scr S v := by
  intro j v hj
  rcases lst2_at h hj with ⟨-, rfl⟩ | ⟨-, -, h2, -⟩
  · exact hu
  · exact hv _ _ h2
/-- one cell's ints or longs are written -/
theorem VS_sI {S : DS} (h : VS S) (F i j : Nat) (x : Int32) : VS (sI S F i j x) := h
theorem VS_sL {S : DS} (h : VS S) (F i j : Nat) (x : Int64) : VS (sL S F i j x) := h
theorem VS_sRow {S : DS} (h : VS S) (F i : Nat) (f : Nat → Int32) : VS (sRow S F i f) := h
theorem VS_sQ {S : DS} (h : VS S) {F i j : Nat} {x : Option Nat} (h1 : ∀ n k, F < 1000 → kdT F j = n + 2 → x = some k → (n, k) ∈ S.1) (h2 : ∀ k, 3000 ≤ F → x = some k → (arT F, k) ∈ S.1) : VS (sQ S F i j x) := by
  intro q hq
  obtain ⟨g1, g2, g3, g4⟩ := h q hq
  refine ⟨g1, g2, fun j' n k a1 a2 a3 => ?_, fun j' k a1 a0 a3 => ?_⟩
  · show (n, k) ∈ S.1
    simp only [sQ] at a3
    split at a3
    · next hh =>
      simp only [va_up] at a3
      split at a3
      · next hj => rw [hh.1] at a1 a2; rw [hj] at a2; exact h1 n k a1 a2 a3
      · next hj => rw [← hh.1, ← hh.2] at a3; exact g3 j' n k a1 a2 a3
    · exact g3 j' n k a1 a2 a3
  · show (arT q.1, k) ∈ S.1
    simp only [sQ] at a3
    split at a3
    · next hh =>
      simp only [va_up] at a3
      split at a3
      · next hj => rw [hh.1] at a1 ⊢; exact h2 k a1 a3
      · next hj => rw [← hh.1, ← hh.2] at a3; exact g4 j' k a1 a0 a3
    · exact g4 j' k a1 a0 a3
theorem fs_set {f g : Nat → Value} {N j : Nat} {v : Value} (hj : g j = v) (hn : ∀ k, k ≠ j → g k = f k) : ((List.range N).map f).set j v = (List.range N).map g := by
  refine List.ext_getElem? (fun k => ?_)
  by_cases hk : k = j
  · subst hk
    by_cases hl : k < N
    · rw [List.getElem?_set_self (by simpa using hl)]
      simp [hl, hj]
    · rw [List.getElem?_eq_none (by simpa using hl), List.getElem?_eq_none (by simpa using hl)]
  · rw [List.getElem?_set_ne (Ne.symm hk)]
    simp only [List.getElem?_map]
    by_cases hl : k < N
    · simp [hl, hn k hk]
    · rw [List.getElem?_eq_none (by simpa using hl)]
      rfl
theorem cellD_obj {ad : Nat → Nat → Nat} {S : DS} {F i : Nat} (h : F < 1000) : cellD cA ad S F i = .inr (F, (List.range (nfT F)).map (fvT ad S F i)) := if_pos h
theorem cellD_int {ad : Nat → Nat → Nat} {S : DS} {F i : Nat} (h : F / 1000 = 1) : cellD cA ad S F i = .inl (cA 1, F % 1000, .inl (S.2.1 F i)) := by
  unfold cellD arC
  rw [if_neg (by omega), if_pos h, h]
theorem cellD_long {ad : Nat → Nat → Nat} {S : DS} {F i : Nat} (h : F / 1000 = 2) : cellD cA ad S F i = .inl (cA 2, F % 1000, .inr (.inl (S.2.2.1 F i))) := by
  unfold cellD arC
  rw [if_neg (by omega), if_neg (by omega), if_pos h, h]
theorem cellD_ref {ad : Nat → Nat → Nat} {S : DS} {F i : Nat} (h : 3 ≤ F / 1000) : cellD cA ad S F i = .inl (cA (F / 1000), F % 1000, .inr (.inr (.inr (.inr (fun j => if j < F % 1000 then (S.2.2.2 F i j).map (ad (arT F)) else none))))) := by
  unfold cellD arC
  rw [if_neg (by omega), if_neg (by omega), if_neg (by omega)]
theorem TYS_ref {F : Nat} (h : 3 ≤ F / 1000) (hF : F < 6000) : ∃ (t : Nat) (q : vw_C), (TYS cA)[t]? = some (cA (F / 1000), .object q.1) ∧ vwCl[arT F]? = some q := by
  have h3 : F / 1000 = 3 ∨ F / 1000 = 4 ∨ F / 1000 = 5 := by omega
  rcases h3 with h3 | h3 | h3
  · exact ⟨2, (RX1, TX1, 16), by rw [h3]; rfl, by unfold arT; rw [h3]; rfl⟩
  · exact ⟨3, (RX4, TX4, 9), by rw [h3]; rfl, by unfold arT; rw [h3]; rfl⟩
  · exact ⟨4, (RX5, TX5, 10), by rw [h3]; rfl, by unfold arT; rw [h3]; rfl⟩
/-- what a method's frame knows -/
def CX (p : Program) (s : State) (m : MethodId) (args : Array Value) (meth : Method) (c : Code) (R : Room) (D : va_G) (cA : Nat → ClassId) (A : Nat → Prop) (H0 : Heap) (c0 cap : Nat × Nat) (mi : MI) : Prop :=
  p.tables.exec = Jvm.exec ∧ c.code = mi.2.1 ∧ c.maxLocals = mi.2.2.1 ∧ s.vm.findClass mi.1.cls = some m.cls ∧ (∀ w ∈ TG, w.before args s = true) ∧ NWs s ∧ (mi.1.name = "<init>" → meth.name = mi.1.name) ∧ va_K D vwCl (TYS cA) s ∧ (∀ q, H0.size ≤ q → A q) ∧ R.frames = mi.2.2.2.2.1 ∧ R.locals = mi.2.2.2.2.2.2.2.1 ∧ cap = (c0.1 + R.cells, c0.2 + R.slots)
theorem sim_get (C : CX p s m args meth c R D cA A H0 c0 cap mi) {k : KC} (hk : k = SB p l e R s m args below meth c D cA A H0 scr b nL c0 Q) {pc x y w n : Nat} {idx : Nat} {loc : List (Option AV)} {st : List AV} {S : DS} (hdg : decode mi.2.1 pc = .ok (.getfield idx, 3)) (hc : ckF mi.1.cls idx x y w n = true)
    (h : ∃ i r, st = aR x i :: r ∧ k (pc + 3) loc (rdF S x i y w :: r) S) : SB p l e R s m args below meth c D cA A H0 scr b nL c0 Q pc loc st S := by
  obtain ⟨hx, hb, hml, hown, hts, hNW, hnm, hK, hA, hRf, hRl, hcap⟩ := C
  subst hk
  obtain ⟨i, r, rfl, h⟩ := h
  intro ad H locs cells slots ls hP hD hS hV hsc hl hll hvs hvl hcc hcs
  unfold ckF at hc
  split at hc
  · next C T N hq =>
    simp only [Bool.and_eq_true, decide_eq_true_eq] at hc
    obtain ⟨h1, h2, h3, h4⟩ := hc
    have hx8 : x < 8 := (List.getElem?_eq_some_iff.mp hq).1
    have hm : (x, i) ∈ S.1 := (fmh hvs _ rfl).elim id (fun z => by have := congrArg Prod.fst z.2; simp at this; omega)
    obtain ⟨p0, hp0, he⟩ := wsD_at (cA := cA) (ad := ad) hm
    rw [cellD_obj (by omega)] at he
    have hf := clsF_all hq
    refine va_get (D := D) (ci := x) (v := cv ad (rdF S x i y w)) (C := C) (T := T) (N := N) (ref := (T y).1) hx hb hts hf.1 hown hK hP p0 he hq y h1 (hts _ (TG.in (hasW.in h4) rfl)) (fun _ h9 => h9) (by rw [List.getElem?_map, List.getElem?_range (by omega)]; show some (fvT ad S x i y) = _; unfold fvT; rw [h3]) hdg ?_
    refine h ad H locs cells slots ls hP hD hS hV hsc hl hll (fm ?_ (fmt hvs)) hvl hcc hcs
    match w, h3 with
    | 0, _ => exact VA.i
    | 1, _ => exact VA.l
    | n + 2, h3 => exact VAo (fun k hk => (hV _ hm).2.2.1 y n k (by show x < 1000; omega) h3 hk)
  · cases hc
theorem sim_put (C : CX p s m args meth c R D cA A H0 c0 cap mi) {k : KC} (hk : k = SB p l e R s m args below meth c D cA A H0 scr b nL c0 Q) {pc x y w n : Nat} {idx : Nat} {loc : List (Option AV)} {st : List AV} {S : DS} (hdg : decode mi.2.1 pc = .ok (.putfield idx, 3)) (hc : ckF mi.1.cls idx x y w n = true) (hp : ckP mi.1.name mi.1.cls x y w = true)
    (h : ∃ v i r S', st = v :: aR x i :: r ∧ wrF S x i y w v = some S' ∧ k (pc + 3) loc r S') : SB p l e R s m args below meth c D cA A H0 scr b nL c0 Q pc loc st S := by
  obtain ⟨hx, hb, hml, hown, hts, hNW, hnm, hK, hA, hRf, hRl, hcap⟩ := C
  subst hk
  obtain ⟨v, i, r, S', rfl, hw, h⟩ := h
  intro ad H locs cells slots ls hP hD hS hV hsc hl hll hvs hvl hcc hcs
  unfold ckF at hc
  unfold ckP at hp
  split at hc
  · next C T N hq =>
    rw [hq] at hp
    simp only [Bool.and_eq_true, decide_eq_true_eq] at hc
    obtain ⟨h1, h2, h3, h4⟩ := hc
    have hx8 : x < 8 := (List.getElem?_eq_some_iff.mp hq).1
    have hm : (x, i) ∈ S.1 := (fmh (fmt hvs) _ rfl).elim id (fun z => by have := congrArg Prod.fst z.2; simp at this; omega)
    obtain ⟨p0, hp0, he⟩ := wsD_at (cA := cA) (ad := ad) hm
    rw [cellD_obj (by omega)] at he
    have hf := clsF_all hq
    obtain ⟨hf1, hf2, hf3, ty, hf4, hf5⟩ := hf
    simp only [Bool.and_eq_true, Bool.or_eq_true, decide_eq_true_eq] at hp
    obtain ⟨hp1, hp2⟩ := hp
    -- the value fits, and the new state is a set of one cell
    have key : ∃ t : FieldType, parseFieldDescriptor (T y).2.2.1 = some t ∧ narrow t (cv ad v) = cv ad v ∧ fits t (cv ad v) = true ∧ S'.1 = S.1 ∧ VS S' ∧ (∀ F' i', ¬ (F' = x ∧ i' = i) → S'.2.1 F' i' = S.2.1 F' i' ∧ S'.2.2.1 F' i' = S.2.2.1 F' i' ∧ S'.2.2.2 F' i' = S.2.2.2 F' i') ∧ fvT ad S' x i y = cv ad v ∧ ∀ j, j ≠ y → fvT ad S' x i j = fvT ad S x i j := by
      have hne : ∀ {α : Type} {f g : Nat → Nat → α} {F' i' : Nat}, ¬ (F' = x ∧ i' = i) → (if F' = x ∧ i' = i then f F' i' else g F' i') = g F' i' := fun hh => if_neg hh
      match w, v, hw with
      | 0, .inl (.inl u), hw =>
        have e : S' = _ := (Option.some.inj hw).symm
        subst e
        refine ⟨.int, ?_, rfl, rfl, rfl, VS_sI hV x i y u, fun F' i' hh => ⟨if_neg hh, rfl, rfl⟩, ?_, fun j hj => ?_⟩
        · split at hp1 <;> first | assumption | cases hp1
        · unfold fvT
          rw [h3]
          simp [rdF, sI, cv, upd]
        · unfold fvT
          cases hkk : kdT x j with
          | zero => simp [rdF, sI, cv, upd, hj]
          | succ n => cases n <;> rfl
      | 1, .inl (.inr u), hw =>
        have e : S' = _ := (Option.some.inj hw).symm
        subst e
        refine ⟨.long, ?_, rfl, rfl, rfl, VS_sL hV x i y u, fun F' i' hh => ⟨rfl, if_neg hh, rfl⟩, ?_, fun j hj => ?_⟩
        · split at hp1 <;> first | assumption | cases hp1
        · unfold fvT
          rw [h3]
          simp [rdF, sL, cv, vp_updL]
        · unfold fvT
          cases hkk : kdT x j with
          | zero => rfl
          | succ n =>
            cases n with
            | zero => simp [rdF, sL, cv, vp_updL, hj]
            | succ n => rfl
      | n + 2, .inr (some a), hw =>
        have hw' : (bif Nat.beq a.1 n then some (sQ S x i y (some a.2)) else none) = some S' := hw
        cases hb2 : Nat.beq a.1 n with
        | false => rw [hb2] at hw'; cases hw'
        | true =>
          rw [hb2] at hw'
          have ha1 : a.1 = n := Nat.eq_of_beq_eq_true hb2
          have e : S' = _ := (Option.some.inj hw').symm
          subst e
          have hma : a ∈ S.1 := (fmh hvs _ rfl).elim id (fun z => by
            have e9 : a = (900, 0) := z.2
            have hn9 : n = 900 := by rw [← ha1, e9]
            rw [hn9] at h3
            exfalso
            revert h3
            have hy : y < nfT x := by omega
            have : ∀ F < 8, ∀ j < nfT F, kdT F j ≠ 900 + 2 := by decide +kernel
            exact this x hx8 y hy)
          refine ⟨ty y, hf4 y h1, ?_, ?_, rfl, VS_sQ hV (fun n' k' _ g2 g3 => ?_) (fun k' g1 _ => by omega), fun F' i' hh => ⟨rfl, rfl, if_neg hh⟩, ?_, fun j hj => ?_⟩
          · have h9 := hf4 y h1
            rw [h9] at hp1
            split at hp1 <;> first | (cases hp1; done) | (next q9 => cases q9; simp_all [narrow, cv]; done) | (next q9 => have q8 := Option.some.inj q9; rw [q8]; rfl)
          · have h9 := hf4 y h1
            rw [h9] at hp1
            split at hp1 <;> first | (cases hp1; done) | (next q9 => have q8 := Option.some.inj q9; rw [q8]; rfl)
          · rw [h3] at g2
            have hn : n = n' := by omega
            have hk' : a.2 = k' := Option.some.inj g3
            rw [← hn, ← hk', ← ha1]
            exact hma
          · unfold fvT
            rw [h3]
            simp [rdF, sQ, cv, va_up, ha1]
          · unfold fvT
            cases hkk : kdT x j with
            | zero => rfl
            | succ n9 =>
              cases n9 with
              | zero => rfl
              | succ n9 => simp [rdF, sQ, cv, va_up, hj]
    obtain ⟨t, k1, k2, k3, k4, k5, k6, k7, k8⟩ := key
    have hset : (List.map (fvT ad S x i) (List.range (nfT x))).set y (cv ad v) = List.map (fvT ad S' x i) (List.range (nfT x)) := fs_set k7 k8
    have hW := wsD_set (cA := cA) (ad := ad) hD hp0 k4 k6
    rw [cellD_obj (S := S') (by omega)] at hW
    have go : ∀ (H1 : Heap) (locs1 : List Loc), va_P D vwCl ((wsD cA ad S).set p0 (ad x i, .inr (x, (List.map (fvT ad S x i) (List.range (nfT x))).set y (cv ad v)))) H1 → va_D A ((wsD cA ad S).set p0 (ad x i, .inr (x, (List.map (fvT ad S x i) (List.range (nfT x))).set y (cv ad v)))) → va_S A H0 H1 locs1 → W p l e R s m args below meth c H1 locs1 cells slots Q (F0 m (pc + 3) ls (r.map (cv ad))) := by
      intro H1 locs1 hP1 hD1 hS1
      rw [hset, hW] at hP1 hD1
      have hle : ∀ a ∈ S.1, a ∈ S'.1 := fun a ha => by rw [k4]; exact ha
      exact h ad H1 locs1 cells slots ls hP1 hD1 hS1 k5 (by rw [k4]; exact hsc) hl hll (fun v hv => (fmt (fmt hvs) v hv).le hle) (fun i v hv => (hvl i v hv).le hle) (by rw [k4]; exact hcc) (by rw [k4]; exact hcs)
    rcases hp2 with hp2 | ⟨hp2, hp3⟩
    · exact va_put (D := D) (ci := x) (v := cv ad v) (ty := t) (C := C) (T := T) (N := N) (ref := (T y).1) hx hb hts hf1 ty hf4 hf3 hown hK hP hD hS p0 he hq y h1 (hts _ (TG.in (hasW.in h4) rfl)) (fun _ h9 => h9) hp2 k1 k2 k3 (by simp; omega) hdg go
    · by_cases hfin : (T y).2.2.2 = false
      · exact va_put (D := D) (ci := x) (v := cv ad v) (ty := t) (C := C) (T := T) (N := N) (ref := (T y).1) hx hb hts hf1 ty hf4 hf3 hown hK hP hD hS p0 he hq y h1 (hts _ (TG.in (hasW.in h4) rfl)) (fun _ h9 => h9) hfin k1 k2 k3 (by simp; omega) hdg go
      · exact va_putF (D := D) (ci := x) (v := cv ad v) (ty := t) (C := C) (T := T) (N := N) (ref := (T y).1) hx hb hts hf1 ty hf4 hf3 hown hK hP hD hS p0 he hq y h1 (hts _ (TG.in (hasW.in h4) rfl)) (fun _ h9 => h9) (by simpa using hfin) ((hnm hp2).trans hp2) hp3 k1 k2 k3 (by simp; omega) hdg go
  · cases hc
end SIM
end
section
section SIM3
variable {p : Program} {l : Launch} {e : Env} {R : Room} {s : State} {m : MethodId} {args : Array Value} {below : List Frame} {meth : Method} {c : Code} {D : va_G} {cA : Nat → ClassId} {A : Nat → Prop} {H0 : Heap} {scr : Prop} {b : Nat × List (Nat × Nat) × (Nat → Nat → Nat)} {c0 cap : Nat × Nat} {Q : State → Prop} {mi : MI} {k : KC} {pc : Nat} {loc : List (Option AV)} {st : List AV} {S : DS} {sc : Nat × (Nat → Int32)}
theorem no900 (hV : VS S) : ¬ (900, 0) ∈ S.1 := fun h => by
  have h2 := (hV _ h).1
  simp at h2
theorem rf_cv (ad : Nat → Nat → Nat) (F : Nat) (o : Option Nat) : va_rf (o.map (ad F)) = cv ad (.inr (o.map (fun q => (F, q)))) := by
  cases o <;> rfl
theorem memA {F i : Nat} {v : AV} (h : VA scr S v) (hv : v = aR F i) (hF : F ≠ 900) : (F, i) ∈ S.1 := (h (F, i) hv).elim id (fun z => absurd (congrArg Prod.fst z.2) hF)
theorem sim_iald (C : CX p s m args meth c R D cA A H0 c0 cap mi) (hk : k = SB p l e R s m args below meth c D cA A H0 scr b mi.2.2.1 c0 Q) (hX : scr → va_X b.1 sc.1 sc.2 s H0 ∧ b.1 < H0.size ∧ ¬ A b.1) (hdg : decode mi.2.1 pc = .ok (.iaload, 1))
    (h : (∃ n F i r, st = aI n :: aR F i :: r ∧ F / 1000 = 1 ∧ vp_in n (F % 1000) ∧ k (pc + 1) loc (aI (S.2.1 F i n.toNatClampNeg) :: r) S) ∨ (∃ n r, st = aI n :: aR 900 0 :: r ∧ vp_in n sc.1 ∧ k (pc + 1) loc (aI (sc.2 n.toNatClampNeg) :: r) S)) : SB p l e R s m args below meth c D cA A H0 scr b mi.2.2.1 c0 Q pc loc st S := by
  obtain ⟨hx, hb, hml, hown, hts, hNW, hnm, hK, hA, hRf, hRl, hcap⟩ := C
  subst hk
  intro ad H locs cells slots ls hP hD hS hV hsc hl hll hvs hvl hcc hcs
  rcases h with ⟨n, F, i, r, rfl, hF, hin, h⟩ | ⟨n, r, rfl, hin, h⟩
  · have hm : (F, i) ∈ S.1 := memA (fmh (fmt hvs)) rfl (by omega)
    obtain ⟨p0, hp0, he⟩ := wsD_at (cA := cA) (ad := ad) hm
    rw [cellD_int hF] at he
    exact va_iald hx hb hK hP p0 0 he rfl hin hdg (h ad H locs cells slots ls hP hD hS hV hsc hl hll (fm VA.i (fmt (fmt hvs))) hvl hcc hcs)
  · have hs : scr := ((fmh (fmt hvs)) (900, 0) rfl).elim (fun z => absurd z (no900 hV)) (fun z => z.1)
    obtain ⟨x1, x2, x3⟩ := hX hs
    have e9 := hsc.1 hs
    have h9 := h ad H locs cells slots ls hP hD hS hV hsc hl hll (fm VA.i (fmt (fmt hvs))) hvl hcc hcs
    show W p l e R s m args below meth c H locs cells slots Q (F0 m pc ls (.int n :: .ref (ad 900 0) :: r.map (cv ad)))
    rw [e9]
    exact va_sld hx hb x1 x2 x3 hS hin hdg h9
theorem sim_lald (C : CX p s m args meth c R D cA A H0 c0 cap mi) (hk : k = SB p l e R s m args below meth c D cA A H0 scr b mi.2.2.1 c0 Q) (hdg : decode mi.2.1 pc = .ok (.laload, 1))
    (h : ∃ n F i r, st = aI n :: aR F i :: r ∧ F / 1000 = 2 ∧ vp_in n (F % 1000) ∧ k (pc + 1) loc (aL (S.2.2.1 F i n.toNatClampNeg) :: r) S) : SB p l e R s m args below meth c D cA A H0 scr b mi.2.2.1 c0 Q pc loc st S := by
  obtain ⟨hx, hb, hml, hown, hts, hNW, hnm, hK, hA, hRf, hRl, hcap⟩ := C
  subst hk
  intro ad H locs cells slots ls hP hD hS hV hsc hl hll hvs hvl hcc hcs
  obtain ⟨n, F, i, r, rfl, hF, hin, h⟩ := h
  have hm : (F, i) ∈ S.1 := memA (fmh (fmt hvs)) rfl (by omega)
  obtain ⟨p0, hp0, he⟩ := wsD_at (cA := cA) (ad := ad) hm
  rw [cellD_long hF] at he
  exact va_lald hx hb hK hP p0 1 he rfl hin hdg (h ad H locs cells slots ls hP hD hS hV hsc hl hll (fm VA.l (fmt (fmt hvs))) hvl hcc hcs)
theorem sim_aald (C : CX p s m args meth c R D cA A H0 c0 cap mi) (hk : k = SB p l e R s m args below meth c D cA A H0 scr b mi.2.2.1 c0 Q) (hdg : decode mi.2.1 pc = .ok (.aaload, 1))
    (h : ∃ n F i r, st = aI n :: aR F i :: r ∧ 3 ≤ F / 1000 ∧ vp_in n (F % 1000) ∧ k (pc + 1) loc (.inr ((S.2.2.2 F i n.toNatClampNeg).map (fun q => (arT F, q))) :: r) S) : SB p l e R s m args below meth c D cA A H0 scr b mi.2.2.1 c0 Q pc loc st S := by
  obtain ⟨hx, hb, hml, hown, hts, hNW, hnm, hK, hA, hRf, hRl, hcap⟩ := C
  subst hk
  intro ad H locs cells slots ls hP hD hS hV hsc hl hll hvs hvl hcc hcs
  obtain ⟨n, F, i, r, rfl, hF, hin, h⟩ := h
  have hm : (F, i) ∈ S.1 := memA (fmh (fmt hvs)) rfl (by omega)
  obtain ⟨p0, hp0, he⟩ := wsD_at (cA := cA) (ad := ad) hm
  rw [cellD_ref hF] at he
  have h6 : F < 6000 := by have := (hV _ hm).1; simp at this; omega
  obtain ⟨t, q, ht, hq⟩ := TYS_ref (cA := cA) hF h6
  refine va_aldq hx hb hK hP p0 t he ht hin hdg ?_
  have hlt : n.toNatClampNeg < F % 1000 := Nat.not_le.mp fun q => hin (Or.inr q)
  show W p l e R s m args below meth c H locs cells slots Q (F0 m (pc + 1) ls (va_rf (if n.toNatClampNeg < F % 1000 then (S.2.2.2 F i n.toNatClampNeg).map (ad (arT F)) else none) :: r.map (cv ad)))
  rw [if_pos hlt, rf_cv]
  exact h ad H locs cells slots ls hP hD hS hV hsc hl hll (fm (VAo (fun k hk => (hV _ hm).2.2.2 _ k (by show 3000 ≤ F; omega) hlt hk)) (fmt (fmt hvs))) hvl hcc hcs
theorem sim_iast (C : CX p s m args meth c R D cA A H0 c0 cap mi) (hk : k = SB p l e R s m args below meth c D cA A H0 scr b mi.2.2.1 c0 Q) (hdg : decode mi.2.1 pc = .ok (.iastore, 1))
    (h : ∃ v n F i r, st = aI v :: aI n :: aR F i :: r ∧ F / 1000 = 1 ∧ vp_in n (F % 1000) ∧ k (pc + 1) loc r (sI S F i n.toNatClampNeg v)) : SB p l e R s m args below meth c D cA A H0 scr b mi.2.2.1 c0 Q pc loc st S := by
  obtain ⟨hx, hb, hml, hown, hts, hNW, hnm, hK, hA, hRf, hRl, hcap⟩ := C
  subst hk
  intro ad H locs cells slots ls hP hD hS hV hsc hl hll hvs hvl hcc hcs
  obtain ⟨v, n, F, i, r, rfl, hF, hin, h⟩ := h
  have hm : (F, i) ∈ S.1 := memA (fmh (fmt (fmt hvs))) rfl (by omega)
  obtain ⟨p0, hp0, he⟩ := wsD_at (cA := cA) (ad := ad) hm
  rw [cellD_int hF] at he
  refine va_iast hx hb hK hP hD hS p0 0 he rfl hin hdg (fun H1 locs1 hP1 hD1 hS1 => ?_)
  have hW := wsD_set (S' := sI S F i n.toNatClampNeg v) (cA := cA) (ad := ad) hD hp0 rfl (fun F' i' hh => ⟨if_neg hh, rfl, rfl⟩)
  rw [cellD_int hF, show (sI S F i n.toNatClampNeg v).2.1 F i = upd (S.2.1 F i) n.toNatClampNeg v from if_pos ⟨rfl, rfl⟩] at hW
  rw [hW] at hP1 hD1
  exact h ad H1 locs1 cells slots ls hP1 hD1 hS1 hV hsc hl hll (fmt (fmt (fmt hvs))) hvl hcc hcs
theorem sim_last (C : CX p s m args meth c R D cA A H0 c0 cap mi) (hk : k = SB p l e R s m args below meth c D cA A H0 scr b mi.2.2.1 c0 Q) (hdg : decode mi.2.1 pc = .ok (.lastore, 1))
    (h : ∃ v n F i r, st = aL v :: aI n :: aR F i :: r ∧ F / 1000 = 2 ∧ vp_in n (F % 1000) ∧ k (pc + 1) loc r (sL S F i n.toNatClampNeg v)) : SB p l e R s m args below meth c D cA A H0 scr b mi.2.2.1 c0 Q pc loc st S := by
  obtain ⟨hx, hb, hml, hown, hts, hNW, hnm, hK, hA, hRf, hRl, hcap⟩ := C
  subst hk
  intro ad H locs cells slots ls hP hD hS hV hsc hl hll hvs hvl hcc hcs
  obtain ⟨v, n, F, i, r, rfl, hF, hin, h⟩ := h
  have hm : (F, i) ∈ S.1 := memA (fmh (fmt (fmt hvs))) rfl (by omega)
  obtain ⟨p0, hp0, he⟩ := wsD_at (cA := cA) (ad := ad) hm
  rw [cellD_long hF] at he
  refine va_last hx hb hK hP hD hS p0 1 he rfl hin hdg (fun H1 locs1 hP1 hD1 hS1 => ?_)
  have hW := wsD_set (S' := sL S F i n.toNatClampNeg v) (cA := cA) (ad := ad) hD hp0 rfl (fun F' i' hh => ⟨rfl, if_neg hh, rfl⟩)
  rw [cellD_long hF, show (sL S F i n.toNatClampNeg v).2.2.1 F i = vp_updL (S.2.2.1 F i) n.toNatClampNeg v from if_pos ⟨rfl, rfl⟩] at hW
  rw [hW] at hP1 hD1
  exact h ad H1 locs1 cells slots ls hP1 hD1 hS1 hV hsc hl hll (fmt (fmt (fmt hvs))) hvl hcc hcs
theorem sim_aast (C : CX p s m args meth c R D cA A H0 c0 cap mi) (hk : k = SB p l e R s m args below meth c D cA A H0 scr b mi.2.2.1 c0 Q) (hdg : decode mi.2.1 pc = .ok (.aastore, 1))
    (h : ∃ u n F i r, st = aR (arT F) u :: aI n :: aR F i :: r ∧ 3 ≤ F / 1000 ∧ vp_in n (F % 1000) ∧ k (pc + 1) loc r (sQ S F i n.toNatClampNeg (some u))) : SB p l e R s m args below meth c D cA A H0 scr b mi.2.2.1 c0 Q pc loc st S := by
  obtain ⟨hx, hb, hml, hown, hts, hNW, hnm, hK, hA, hRf, hRl, hcap⟩ := C
  subst hk
  intro ad H locs cells slots ls hP hD hS hV hsc hl hll hvs hvl hcc hcs
  obtain ⟨u, n, F, i, r, rfl, hF, hin, h⟩ := h
  have hm : (F, i) ∈ S.1 := memA (fmh (fmt (fmt hvs))) rfl (by omega)
  have h6 : F < 6000 := by have := (hV _ hm).1; simp at this; omega
  obtain ⟨t, q, ht, hq⟩ := TYS_ref (cA := cA) hF h6
  have ha8 : arT F < 8 := (List.getElem?_eq_some_iff.mp hq).1
  have hmu : (arT F, u) ∈ S.1 := memA (fmh hvs) rfl (by omega)
  obtain ⟨p0, hp0, he⟩ := wsD_at (cA := cA) (ad := ad) hm
  obtain ⟨p1, hp1, he1⟩ := wsD_at (cA := cA) (ad := ad) hmu
  rw [cellD_ref hF] at he
  rw [cellD_obj (by omega)] at he1
  refine va_astq hx hb hK hP hD hS p0 t p1 (arT F) he ht he1 hq hin hdg (fun H1 locs1 hP1 hD1 hS1 => ?_)
  have hW := wsD_set (S' := sQ S F i n.toNatClampNeg (some u)) (cA := cA) (ad := ad) hD hp0 rfl (fun F' i' hh => ⟨rfl, rfl, if_neg hh⟩)
  rw [cellD_ref hF, show (sQ S F i n.toNatClampNeg (some u)).2.2.2 F i = va_up (S.2.2.2 F i) n.toNatClampNeg (some u) from if_pos ⟨rfl, rfl⟩] at hW
  have hlt : n.toNatClampNeg < F % 1000 := Nat.not_le.mp fun q => hin (Or.inr q)
  have hfe : (fun j => if j < F % 1000 then (va_up (S.2.2.2 F i) n.toNatClampNeg (some u) j).map (ad (arT F)) else none) = va_up (fun j => if j < F % 1000 then (S.2.2.2 F i j).map (ad (arT F)) else none) n.toNatClampNeg (some (ad (arT F) u)) := by
    funext j
    unfold va_up
    by_cases hj : j = n.toNatClampNeg
    · rw [if_pos hj, if_pos hj, if_pos (by rw [hj]; exact hlt)]
      rfl
    · rw [if_neg hj, if_neg hj]
  rw [hfe] at hW
  rw [hW] at hP1 hD1
  exact h ad H1 locs1 cells slots ls hP1 hD1 hS1 (VS_sQ hV (fun n' k' g1 _ _ => by omega) (fun k' _ g => by cases g; exact hmu)) hsc hl hll (fmt (fmt (fmt hvs))) hvl hcc hcs
theorem sim_alen (C : CX p s m args meth c R D cA A H0 c0 cap mi) (hk : k = SB p l e R s m args below meth c D cA A H0 scr b mi.2.2.1 c0 Q) (hX : scr → va_X b.1 sc.1 sc.2 s H0 ∧ b.1 < H0.size ∧ ¬ A b.1) (hdg : decode mi.2.1 pc = .ok (.arraylength, 1))
    (h : (∃ F i r, st = aR F i :: r ∧ 1000 ≤ F ∧ k (pc + 1) loc (aI (Int32.ofNat (F % 1000)) :: r) S) ∨ (∃ r, st = aR 900 0 :: r ∧ k (pc + 1) loc (aI (Int32.ofNat sc.1) :: r) S)) : SB p l e R s m args below meth c D cA A H0 scr b mi.2.2.1 c0 Q pc loc st S := by
  obtain ⟨hx, hb, hml, hown, hts, hNW, hnm, hK, hA, hRf, hRl, hcap⟩ := C
  subst hk
  intro ad H locs cells slots ls hP hD hS hV hsc hl hll hvs hvl hcc hcs
  rcases h with ⟨F, i, r, rfl, hF, h⟩ | ⟨r, rfl, h⟩
  · have hm : (F, i) ∈ S.1 := memA (fmh hvs) rfl (by omega)
    have h6 : F < 6000 := by have := (hV _ hm).1; simp at this; omega
    obtain ⟨p0, hp0, he⟩ := wsD_at (cA := cA) (ad := ad) hm
    have h9 := h ad H locs cells slots ls hP hD hS hV hsc hl hll (fm VA.i (fmt hvs)) hvl hcc hcs
    by_cases h1 : F / 1000 = 1
    · rw [cellD_int h1] at he
      exact va_alen hx hb hK hP p0 0 he (show (TYS cA)[0]? = some (cA 1, .int) from rfl) rfl hdg h9
    · by_cases h2 : F / 1000 = 2
      · rw [cellD_long h2] at he
        exact va_alen hx hb hK hP p0 1 he (show (TYS cA)[1]? = some (cA 2, .long) from rfl) rfl hdg h9
      · have h3 : 3 ≤ F / 1000 := by omega
        rw [cellD_ref h3] at he
        obtain ⟨t, q, ht, hq⟩ := TYS_ref (cA := cA) h3 h6
        exact va_alen hx hb hK hP p0 t he ht rfl hdg h9
  · have hs : scr := ((fmh hvs) (900, 0) rfl).elim (fun z => absurd z (no900 hV)) (fun z => z.1)
    obtain ⟨x1, x2, x3⟩ := hX hs
    have e9 := hsc.1 hs
    have h9 := h ad H locs cells slots ls hP hD hS hV hsc hl hll (fm VA.i (fmt hvs)) hvl hcc hcs
    show W p l e R s m args below meth c H locs cells slots Q (F0 m pc ls (.ref (ad 900 0) :: r.map (cv ad)))
    rw [e9]
    exact va_slen hx hb x1 x2 x3 hS hdg h9
/-- behind an allocation -/
theorem sim_made (C : CX p s m args meth c R D cA A H0 c0 cap mi) {F q : Nat} {ad : Nat → Nat → Nat} {H1 : Heap} {locs : List Loc} {cells slots pc' : Nat} {ls : Array Slot} {E : va_E} {r : List AV} (hF : F < 8 ∨ (1000 ≤ F ∧ F < 6000))
    (hE : cellD cA (fun F' i' => if F' = F ∧ i' = cntF S.1 F then q else ad F' i') (sNew S F (cntF S.1 F)) F (cntF S.1 F) = E)
    (hP : va_P D vwCl (wsD cA ad S ++ [(q, E)]) H1) (hD : va_D A (wsD cA ad S ++ [(q, E)])) (hS : va_S A H0 H1 locs) (hV : VS S) (hsc : SCI scr b ad S.1) (hl : LV ad ls mi.2.2.1 loc) (hll : loc.length = mi.2.2.1) (hvs : ∀ v ∈ r, VA scr S v) (hvl : ∀ (i : Nat) v, loc[i]? = some (some v) → VA scr S v) (hcc : cells + c0.1 = S.1.length) (hcs : slots + c0.2 = slz S.1)
    (h : SB p l e R s m args below meth c D cA A H0 scr b mi.2.2.1 c0 Q pc' loc (aR F (cntF S.1 F) :: r) (sNew S F (cntF S.1 F))) :
    W p l e R s m args below meth c H1 locs (cells + 1) (slots + szF F) Q (F0 m pc' ls (.ref q :: r.map (cv ad))) := by
  have hne : ∀ a ∈ S.1, ¬ (a.1 = F ∧ a.2 = cntF S.1 F) := by
    intro a ha hh
    have h1 := (hV a ha).2.1
    rw [hh.1] at h1
    omega
  have had : ∀ a ∈ S.1, (fun F' i' => if F' = F ∧ i' = cntF S.1 F then q else ad F' i') a.1 a.2 = ad a.1 a.2 := fun a ha => if_neg (hne a ha)
  have h9 : (fun F' i' => if F' = F ∧ i' = cntF S.1 F then q else ad F' i') 900 0 = ad 900 0 := if_neg (fun hh => by omega)
  have hle : ∀ a ∈ S.1, a ∈ (sNew S F (cntF S.1 F)).1 := fun a ha => List.mem_append_left _ ha
  have hnew : (F, cntF S.1 F) ∈ (sNew S F (cntF S.1 F)).1 := List.mem_append_right _ (List.mem_singleton.mpr rfl)
  rw [← hE, ← wsD_new hV] at hP hD
  have h1 := h (fun F' i' => if F' = F ∧ i' = cntF S.1 F then q else ad F' i') H1 locs (cells + 1) (slots + szF F) ls hP hD hS (hV.new hF) (hsc.mono ⟨_, rfl⟩ had h9) (hl.ad hvl had (fun _ => h9)) hll (fm (VA.r hnew) (fun v hv => (hvs v hv).le hle)) (fun i v hv => (hvl i v hv).le hle) (by simp [sNew]; omega) (by rw [slz_new]; omega)
  rw [List.map_cons, cvs_eq hvs had (fun _ => h9)] at h1
  have e : cv (fun F' i' => if F' = F ∧ i' = cntF S.1 F then q else ad F' i') (aR F (cntF S.1 F)) = .ref q := by
    show Value.ref (if F = F ∧ cntF S.1 F = cntF S.1 F then q else ad F (cntF S.1 F)) = _
    rw [if_pos ⟨rfl, rfl⟩]
  rw [e] at h1
  exact h1
theorem fvT_new (ad : Nat → Nat → Nat) (S : DS) (F i j : Nat) : fvT ad (sNew S F i) F i j = dfK (kdT F j) := by
  unfold fvT
  cases kdT F j with
  | zero => simp [rdF, sNew, cv, dfK]
  | succ n =>
    cases n with
    | zero => simp [rdF, sNew, cv, dfK]
    | succ n => simp [rdF, sNew, cv, dfK]
theorem sim_new (C : CX p s m args meth c R D cA A H0 c0 cap mi) (hk : k = SB p l e R s m args below meth c D cA A H0 scr b mi.2.2.1 c0 Q) {idx x w : Nat} {tl : List Nat} (hdg : decode mi.2.1 pc = .ok (.new idx, 3)) (hc : ckN mi.1.cls idx x w tl = true)
    (h : S.1.length + 1 ≤ cap.1 ∧ slz S.1 + nfT x ≤ cap.2 ∧ k (pc + 3) loc (aR x (cntF S.1 x) :: st) (sNew S x (cntF S.1 x))) : SB p l e R s m args below meth c D cA A H0 scr b mi.2.2.1 c0 Q pc loc st S := by
  have C' := C
  obtain ⟨hx, hb, hml, hown, hts, hNW, hnm, hK, hA, hRf, hRl, hcap⟩ := C
  subst hk
  intro ad H locs cells slots ls hP hD hS hV hsc hl hll hvs hvl hcc hcs
  obtain ⟨g1, g2, h⟩ := h
  unfold ckN at hc
  split at hc
  · next C T N hq =>
    simp only [Bool.and_eq_true, decide_eq_true_eq] at hc
    obtain ⟨a1, a2, a3, a4, a5⟩ := hc
    have hx8 : x < 8 := (List.getElem?_eq_some_iff.mp hq).1
    obtain ⟨hf1, hf2, hf3, ty, hf4, hf5⟩ := clsF_all hq
    rw [hcap] at g1 g2
    simp only at g1 g2
    have hsz : szF x = N := by
      unfold szF
      rw [show Nat.ble 1000 x = false by cases hbb : Nat.ble 1000 x with | false => rfl | true => have := Nat.le_of_ble_eq_true hbb; omega]
      exact a1
    have hE : cellD cA (fun F' i' => if F' = x ∧ i' = cntF S.1 x then H.size else ad F' i') (sNew S x (cntF S.1 x)) x (cntF S.1 x) = .inr (x, (List.range N).map (fun j => dfK (kdT x j))) := by
      rw [cellD_obj (by omega), a1]
      congr 2
      exact List.map_congr_left (fun j _ => fvT_new _ _ _ _ _)
    have hgo : ∀ (q : Nat) (H1 : Heap), va_P D vwCl (wsD cA ad S ++ [(q, .inr (x, (List.range N).map (fun j => dfK (kdT x j))))]) H1 → va_D A (wsD cA ad S ++ [(q, .inr (x, (List.range N).map (fun j => dfK (kdT x j))))]) → va_S A H0 H1 locs → W p l e R s m args below meth c H1 locs (cells + 1) (slots + N) Q (F0 m (pc + 3) ls (.ref q :: st.map (cv ad))) := by
      intro q H1 hP1 hD1 hS1
      have hE : cellD cA (fun F' i' => if F' = x ∧ i' = cntF S.1 x then q else ad F' i') (sNew S x (cntF S.1 x)) x (cntF S.1 x) = .inr (x, (List.range N).map (fun j => dfK (kdT x j))) := by
        rw [cellD_obj (by omega), a1]
        congr 2
        exact List.map_congr_left (fun j _ => fvT_new _ _ _ _ _)
      have := sim_made C' (Or.inl hx8) hE hP1 hD1 hS1 hV hsc hl hll hvs hvl hcc hcs h
      rw [hsz] at this
      exact this
    exact va_new (ci := x) (C := C) (T := T) (N := N) hx hb hts hf1 ty hf4 hown (hts _ (TG.in (hasW.in a3) rfl)) (hts _ (TG.in (hasW.in a4) rfl)) (hts _ (TG.in (hasW.in a5) rfl)) hK hP hD hS hA hq (fun j hj => by rw [hf5 j hj]; show _ = List.getD _ _ _; rw [List.getD_eq_getElem?_getD, List.getElem?_map, List.getElem?_range hj]; rfl) (by omega) (by omega) hdg hgo
  · cases hc
theorem sim_newI (C : CX p s m args meth c R D cA A H0 c0 cap mi) (hk : k = SB p l e R s m args below meth c D cA A H0 scr b mi.2.2.1 c0 Q) {x n0 : Nat} (hdg : decode mi.2.1 pc = .ok (.newarray .int, 2)) (hx1 : x = 1000) (hc : hasW n0 (.arrayClass .int) = true)
    (h : ∃ n r N, st = aI n :: r ∧ ¬ n < 0 ∧ n.toNatClampNeg = N ∧ N < 1000 ∧ S.1.length + 1 ≤ cap.1 ∧ slz S.1 + N ≤ cap.2 ∧ k (pc + 2) loc (aR (x + N) (cntF S.1 (x + N)) :: r) (sNew S (x + N) (cntF S.1 (x + N)))) : SB p l e R s m args below meth c D cA A H0 scr b mi.2.2.1 c0 Q pc loc st S := by
  have C' := C
  obtain ⟨hx, hb, hml, hown, hts, hNW, hnm, hK, hA, hRf, hRl, hcap⟩ := C
  subst hk
  subst hx1
  intro ad H locs cells slots ls hP hD hS hV hsc hl hll hvs hvl hcc hcs
  obtain ⟨n, r, N, rfl, hn, hN, h1000, g1, g2, h⟩ := h
  rw [hcap] at g1 g2
  simp only at g1 g2
  have hd : (1000 + N) / 1000 = 1 := by omega
  have hsz : szF (1000 + N) = N := by
    unfold szF
    rw [show Nat.ble 1000 (1000 + N) = true from Nat.ble_eq_true_of_le (by omega)]
    show (1000 + N) % 1000 = N
    omega
  refine va_newa (atype := .int) (ty := .int) (a0 := (N, .inl (fun _ => 0))) (N' := N) hx hb (hts _ (TG.in (hasW.in hc) rfl)) rfl hK hP hD hS hA (fun cA => rfl) hn hN (by show N * 4 ≤ _; omega) (by omega) (by omega) hdg (fun q cB H1 hK1 hP1 hD1 hS1 => ?_)
  have hcB : cB = cA 1 := by
    have e1 : s.vm.findClass ("[" ++ (FieldType.int).toString) = some cB := (hK1.2 5 (cB, .int) rfl).2
    have e2 : s.vm.findClass ("[" ++ (FieldType.int).toString) = some (cA 1) := (hK.2 0 (cA 1, .int) rfl).2
    exact Option.some.inj (e1.symm.trans e2)
  subst hcB
  have hE : cellD cA (fun F' i' => if F' = 1000 + N ∧ i' = cntF S.1 (1000 + N) then q else ad F' i') (sNew S (1000 + N) (cntF S.1 (1000 + N))) (1000 + N) (cntF S.1 (1000 + N)) = .inl (cA 1, N, .inl (fun _ => 0)) := by
    rw [cellD_int hd, show (1000 + N) % 1000 = N by omega]
    simp [sNew]
  have := sim_made C' (Or.inr ⟨by omega, by omega⟩) hE hP1 hD1 hS1 hV hsc hl hll (fmt hvs) hvl hcc hcs h
  rw [hsz] at this
  exact this
theorem sim_newL (C : CX p s m args meth c R D cA A H0 c0 cap mi) (hk : k = SB p l e R s m args below meth c D cA A H0 scr b mi.2.2.1 c0 Q) {x n0 : Nat} (hdg : decode mi.2.1 pc = .ok (.newarray .long, 2)) (hx1 : x = 2000) (hc : hasW n0 (.arrayClass .long) = true)
    (h : ∃ n r N, st = aI n :: r ∧ ¬ n < 0 ∧ n.toNatClampNeg = N ∧ N < 1000 ∧ S.1.length + 1 ≤ cap.1 ∧ slz S.1 + N ≤ cap.2 ∧ k (pc + 2) loc (aR (x + N) (cntF S.1 (x + N)) :: r) (sNew S (x + N) (cntF S.1 (x + N)))) : SB p l e R s m args below meth c D cA A H0 scr b mi.2.2.1 c0 Q pc loc st S := by
  have C' := C
  obtain ⟨hx, hb, hml, hown, hts, hNW, hnm, hK, hA, hRf, hRl, hcap⟩ := C
  subst hk
  subst hx1
  intro ad H locs cells slots ls hP hD hS hV hsc hl hll hvs hvl hcc hcs
  obtain ⟨n, r, N, rfl, hn, hN, h1000, g1, g2, h⟩ := h
  rw [hcap] at g1 g2
  simp only at g1 g2
  have hd : (2000 + N) / 1000 = 2 := by omega
  have hsz : szF (2000 + N) = N := by
    unfold szF
    rw [show Nat.ble 1000 (2000 + N) = true from Nat.ble_eq_true_of_le (by omega)]
    show (2000 + N) % 1000 = N
    omega
  refine va_newa (atype := .long) (ty := .long) (a0 := (N, .inr (.inl (fun _ => 0)))) (N' := N) hx hb (hts _ (TG.in (hasW.in hc) rfl)) rfl hK hP hD hS hA (fun cA => rfl) hn hN (by show N * 8 ≤ _; omega) (by omega) (by omega) hdg (fun q cB H1 hK1 hP1 hD1 hS1 => ?_)
  have hcB : cB = cA 2 := by
    have e1 : s.vm.findClass ("[" ++ (FieldType.long).toString) = some cB := (hK1.2 5 (cB, .long) rfl).2
    have e2 : s.vm.findClass ("[" ++ (FieldType.long).toString) = some (cA 2) := (hK.2 1 (cA 2, .long) rfl).2
    exact Option.some.inj (e1.symm.trans e2)
  subst hcB
  have hE : cellD cA (fun F' i' => if F' = 2000 + N ∧ i' = cntF S.1 (2000 + N) then q else ad F' i') (sNew S (2000 + N) (cntF S.1 (2000 + N))) (2000 + N) (cntF S.1 (2000 + N)) = .inl (cA 2, N, .inr (.inl (fun _ => 0))) := by
    rw [cellD_long hd, show (2000 + N) % 1000 = N by omega]
    simp [sNew]
  have := sim_made C' (Or.inr ⟨by omega, by omega⟩) hE hP1 hD1 hS1 hV hsc hl hll (fmt hvs) hvl hcc hcs h
  rw [hsz] at this
  exact this
theorem sim_newR (C : CX p s m args meth c R D cA A H0 c0 cap mi) (hk : k = SB p l e R s m args below meth c D cA A H0 scr b mi.2.2.1 c0 Q) {x idx : Nat} {tl : List Nat} (hdg : decode mi.2.1 pc = .ok (.anewarray idx, 3)) (hc : ckA mi.1.cls idx x tl = true)
    (h : ∃ n r N, st = aI n :: r ∧ ¬ n < 0 ∧ n.toNatClampNeg = N ∧ N < 1000 ∧ S.1.length + 1 ≤ cap.1 ∧ slz S.1 + N ≤ cap.2 ∧ k (pc + 3) loc (aR (x + N) (cntF S.1 (x + N)) :: r) (sNew S (x + N) (cntF S.1 (x + N)))) : SB p l e R s m args below meth c D cA A H0 scr b mi.2.2.1 c0 Q pc loc st S := by
  have C' := C
  obtain ⟨hx, hb, hml, hown, hts, hNW, hnm, hK, hA, hRf, hRl, hcap⟩ := C
  subst hk
  intro ad H locs cells slots ls hP hD hS hV hsc hl hll hvs hvl hcc hcs
  obtain ⟨n, r, N, rfl, hn, hN, h1000, g1, g2, h⟩ := h
  rw [hcap] at g1 g2
  simp only at g1 g2
  unfold ckA at hc
  rw [Bool.and_eq_true, decide_eq_true_eq] at hc
  obtain ⟨hx3, hc⟩ := hc
  split at hc
  · next C T N' hq =>
    rw [Bool.and_eq_true] at hc
    obtain ⟨w1, w2⟩ := hc
    have hd : (x + N) / 1000 = x / 1000 := by omega
    have h3 : 3 ≤ (x + N) / 1000 := by omega
    have h6 : x + N < 6000 := by omega
    have har : arT (x + N) = arT x := by unfold arT; rw [hd]
    have hsz : szF (x + N) = N := by
      unfold szF
      rw [show Nat.ble 1000 (x + N) = true from Nat.ble_eq_true_of_le (by omega)]
      show (x + N) % 1000 = N
      omega
    obtain ⟨t, q, ht, hq2⟩ := TYS_ref (cA := cA) h3 h6
    rw [har, hq] at hq2
    have hqC : q = (C, T, N') := (Option.some.inj hq2).symm
    rw [hqC] at ht
    refine va_newq (C := C) (N' := N) hx hb hown (hts _ (TG.in (hasW.in w1) rfl)) (hNW.2 C (hasW.in w2)) hK hP hD hS hA hn hN (by omega) (by omega) (by omega) hdg (fun q1 cB H1 hK1 hP1 hD1 hS1 => ?_)
    have hcB : cB = cA ((x + N) / 1000) := by
      have e1 := (hK1.2 5 (cB, .object C) rfl).2
      have e2 := (hK.2 t _ ht).2
      obtain ⟨_, _, _, _, _, f1⟩ := e1
      obtain ⟨_, _, _, _, _, f2⟩ := e2
      exact Option.some.inj (f1.symm.trans f2)
    subst hcB
    have hE : cellD cA (fun F' i' => if F' = x + N ∧ i' = cntF S.1 (x + N) then q1 else ad F' i') (sNew S (x + N) (cntF S.1 (x + N))) (x + N) (cntF S.1 (x + N)) = .inl (cA ((x + N) / 1000), N, .inr (.inr (.inr (.inr (fun _ => none))))) := by
      rw [cellD_ref h3, show (x + N) % 1000 = N by omega]
      simp [sNew]
    have := sim_made C' (Or.inr ⟨by omega, by omega⟩) hE hP1 hD1 hS1 hV hsc hl hll (fmt hvs) hvl hcc hcs h
    rw [hsz] at this
    exact this
  · cases hc
end SIM3
end
section
section SIM4
variable {p : Program} {l : Launch} {e : Env} {R : Room} {s : State} {m : MethodId} {args : Array Value} {below : List Frame} {meth : Method} {c : Code} {D : va_G} {cA : Nat → ClassId} {A : Nat → Prop} {H0 : Heap} {scr : Prop} {b : Nat × List (Nat × Nat) × (Nat → Nat → Nat)} {c0 cap : Nat × Nat} {Q : State → Prop} {mi : MI} {k : KC} {pc : Nat} {loc : List (Option AV)} {st : List AV} {S : DS} {sc : Nat × (Nat → Int32)}
theorem sim_copy (C : CX p s m args meth c R D cA A H0 c0 cap mi) (hk : k = SB p l e R s m args below meth c D cA A H0 scr b mi.2.2.1 c0 Q) {idx n0 n1 n2 n3 : Nat} (hdg : decode mi.2.1 pc = .ok (.invokestatic idx, 3)) (h1 : hasW n0 (.methodLink mi.1.cls idx arraycopyName) = true) (h2 : hasW n1 (.native arraycopyName) = true) (h3 : hasW n2 (.static arraycopyName) = true) (h4 : hasW n3 (.initialized "java/lang/System") = true) (h5 : 1 ≤ mi.2.2.2.2.1 ∧ 8 + (nativeFrameWords "java/lang/System" "arraycopy" 5 + 11) ≤ mi.2.2.2.2.2.2.2.1)
    (h : ∃ n d F' i' u F i r, st = aI n :: aI d :: aR F' i' :: aI u :: aR F i :: r ∧ F / 1000 = 1 ∧ F' / 1000 = 1 ∧ ¬ u < 0 ∧ ¬ d < 0 ∧ ¬ n < 0 ∧ u.toNatClampNeg + n.toNatClampNeg ≤ F % 1000 ∧ d.toNatClampNeg + n.toNatClampNeg ≤ F' % 1000 ∧ aCats r ≤ 8 ∧ k (pc + 3) loc r (sRow S F' i' (va_cpy (S.2.1 F i) (S.2.1 F' i') u.toNatClampNeg d.toNatClampNeg n.toNatClampNeg))) : SB p l e R s m args below meth c D cA A H0 scr b mi.2.2.1 c0 Q pc loc st S := by
  obtain ⟨hx, hb, hml, hown, hts, hNW, hnm, hK, hA, hRf, hRl, hcap⟩ := C
  subst hk
  intro ad H locs cells slots ls hP hD hS hV hsc hl hll hvs hvl hcc hcs
  obtain ⟨n, d, F', i', u, F, i, r, rfl, hF, hF', g1, g2, g3, g4, g5, g6, h⟩ := h
  have hm' : (F', i') ∈ S.1 := memA (fmh (fmt (fmt hvs))) rfl (by omega)
  have hm : (F, i) ∈ S.1 := memA (fmh (fmt (fmt (fmt (fmt hvs))))) rfl (by omega)
  obtain ⟨p0, hp0, he⟩ := wsD_at (cA := cA) (ad := ad) hm
  obtain ⟨p1, hp1, he1⟩ := wsD_at (cA := cA) (ad := ad) hm'
  rw [cellD_int hF] at he
  rw [cellD_int hF'] at he1
  refine va_copyi hx hb (hml.trans hl.1.symm) hown (hts _ (TG.in (hasW.in h1) rfl)) (hts _ (TG.in (hasW.in h2) rfl)) (hts _ (TG.in (hasW.in h3) rfl)) (hts _ (TG.in (hasW.in h4) rfl)) hK hP hD hS p0 p1 0 0 he he1 (ty := .int) rfl rfl rfl g1 g2 g3 g4 g5 (fun _ _ => rfl) (by rw [hRf]; exact h5.1) (by rw [hRl, aCats_cv]; omega) hdg (fun H1 locs1 hP1 hD1 hS1 => ?_)
  have hW := wsD_set (S' := sRow S F' i' (va_cpy (S.2.1 F i) (S.2.1 F' i') u.toNatClampNeg d.toNatClampNeg n.toNatClampNeg)) (cA := cA) (ad := ad) hD hp1 rfl (fun G j hh => ⟨if_neg hh, rfl, rfl⟩)
  rw [cellD_int hF', show (sRow S F' i' (va_cpy (S.2.1 F i) (S.2.1 F' i') u.toNatClampNeg d.toNatClampNeg n.toNatClampNeg)).2.1 F' i' = _ from if_pos ⟨rfl, rfl⟩] at hW
  rw [hW] at hP1 hD1
  exact h ad H1 locs1 cells slots ls hP1 hD1 hS1 hV hsc hl hll (fmt (fmt (fmt (fmt (fmt hvs))))) hvl hcc hcs
theorem sim_max (C : CX p s m args meth c R D cA A H0 c0 cap mi) (hk : k = SB p l e R s m args below meth c D cA A H0 scr b mi.2.2.1 c0 Q) {idx n0 n1 n2 n3 : Nat} (hdg : decode mi.2.1 pc = .ok (.invokestatic idx, 3)) (h1 : hasW n0 (.methodLink mi.1.cls idx Lib.Math.max.name) = true) (h2 : hasW n1 (.static Lib.Math.max.name) = true) (h3 : hasW n2 (.initialized "java/lang/Math") = true) (h4 : hasW n3 (.code Lib.Math.max.name Lib.Math.max.code 2 (some .int)) = true) (h5 : 1 ≤ mi.2.2.2.2.1 ∧ 21 ≤ mi.2.2.2.2.2.2.2.1)
    (h : ∃ a b r, st = aI b :: aI a :: r ∧ aCats r ≤ 8 ∧ S.1.length ≤ cap.1 ∧ slz S.1 ≤ cap.2 ∧ k (pc + 3) loc (aI (if a < b then b else a) :: r) S) : SB p l e R s m args below meth c D cA A H0 scr b mi.2.2.1 c0 Q pc loc st S := by
  obtain ⟨hx, hb, hml, hown, hts, hNW, hnm, hK, hA, hRf, hRl, hcap⟩ := C
  subst hk
  intro ad H locs cells slots ls hP hD hS hV hsc hl hll hvs hvl hcc hcs
  obtain ⟨a9, b9, r, rfl, g6, g7, g8, h⟩ := h
  rw [hcap] at g7 g8
  simp only at g7 g8
  exact va_mmax hx hb (hml.trans hl.1.symm) hown (hts _ (TG.in (hasW.in h1) rfl)) (hts _ (TG.in (hasW.in h2) rfl)) (hts _ (TG.in (hasW.in h3) rfl)) (hts _ (TG.in (hasW.in h4) rfl)) (by rw [hRf]; exact h5.1) (by rw [hRl, aCats_cv]; omega) (by omega) (by omega) hdg (h ad H locs cells slots ls hP hD hS hV hsc hl hll (fm VA.i (fmt (fmt hvs))) hvl hcc hcs)
theorem sim_obj (C : CX p s m args meth c R D cA A H0 c0 cap mi) (hk : k = SB p l e R s m args below meth c D cA A H0 scr b mi.2.2.1 c0 Q) {idx n0 n1 n2 : Nat} (hdg : decode mi.2.1 pc = .ok (.invokespecial idx, 3)) (h1 : hasW n0 (.methodLink mi.1.cls idx Lib.objectInit) = true) (h2 : hasW n1 (.instanceMethod Lib.objectInit) = true) (h3 : hasW n2 (.code Lib.objectInit ⟨#[0xb1]⟩ 1 none) = true) (h5 : 1 ≤ mi.2.2.2.2.1 ∧ 20 ≤ mi.2.2.2.2.2.2.2.1)
    (h : ∃ F i r, st = aR F i :: r ∧ aCats r ≤ 8 ∧ k (pc + 3) loc r S) : SB p l e R s m args below meth c D cA A H0 scr b mi.2.2.1 c0 Q pc loc st S := by
  obtain ⟨hx, hb, hml, hown, hts, hNW, hnm, hK, hA, hRf, hRl, hcap⟩ := C
  subst hk
  intro ad H locs cells slots ls hP hD hS hV hsc hl hll hvs hvl hcc hcs
  obtain ⟨F, i, r, rfl, g6, h⟩ := h
  refine W.objInit hx hb hown (hts _ (TG.in (hasW.in h1) rfl)) (hts _ (TG.in (hasW.in h2) rfl)) (hts _ (TG.in (hasW.in h3) rfl)) rfl (by rw [hml]; exact hl.1) rfl hdg (by rw [hRf]; exact h5.1) (by rw [hRl, aCats_cv]; show 2 * 0 + _ + 12 ≤ _; omega) ?_
  exact h ad H locs cells slots ls hP hD hS hV hsc hl hll (fmt hvs) hvl hcc hcs
/-- behind a call -/
theorem sim_back (C : CX p s m args meth c R D cA A H0 c0 cap mi) {rt : Option FieldType} {Ψ : Option AV → DS → Prop} {ad : Nat → Nat → Nat} {H : Heap} {locs : List Loc} {cells slots mc ms : Nat} {ls : Array Slot} {st0 : List Value} {rest : List AV} {a : Array Value} {A1 free : Nat → Prop}
    (hr : va_Run p l e R s m args below meth c H locs cells slots mc ms (F0 m pc ls st0) (rest.map (cv ad)) (QM rt Ψ D cA ad S (S.1.length + mc, slz S.1 + ms) A1 a) free) (hS : va_S A H0 H locs) (hA1 : ∀ q, A1 q → A q) (hf : ∀ q, free q → A q)
    (hV : VS S) (hsc : SCI scr b ad S.1) (hl : LV ad ls mi.2.2.1 loc) (hll : loc.length = mi.2.2.1) (hvs : ∀ v ∈ rest, VA scr S v) (hvl : ∀ (i : Nat) v, loc[i]? = some (some v) → VA scr S v) (hcc : cells + c0.1 = S.1.length) (hcs : slots + c0.2 = slz S.1)
    (h : ∀ v S', Ψ v S' → SB p l e R s m args below meth c D cA A H0 scr b mi.2.2.1 c0 Q (pc + 3) loc (v.toList ++ rest) S') : W p l e R s m args below meth c H locs cells slots Q (F0 m pc ls st0) := by
  have fin : ∀ (v : Option AV) (u : DS × (Nat → Nat → Nat)) (t : State) (H1 : Heap) (locs1 : List Loc), t.heap = H1 → Ψ v u.1 → (∀ x, v = some x → VA scr u.1 x) → BU D cA ad S (S.1.length + mc, slz S.1 + ms) A1 u t → va_S A H0 H1 locs1 → W p l e R s m args below meth c H1 locs1 (cells + mc) (slots + ms) Q (F0 m (pc + 3) ls (v.toList.map (cv u.2) ++ rest.map (cv ad))) := by
    intro v u t H1 locs1 ht hΨ hva hB hS1
    obtain ⟨b1, b2, b3, ⟨ex, b4⟩, b5, b6, b7, b8⟩ := hB
    rw [ht] at b1
    have hle : ∀ x ∈ S.1, x ∈ u.1.1 := fun x hx => by rw [b4]; exact List.mem_append_left _ hx
    have h1 := h v u.1 hΨ u.2 H1 locs1 (cells + mc) (slots + ms) ls b1 (b2.weaken (fun _ q _ hq => hA1 q.1 hq)) hS1 b3 (hsc.mono ⟨_, b4⟩ b5 b6) (hl.ad hvl b5 (fun _ => b6)) hll (fun x hx => by
      rcases List.mem_append.mp hx with hx | hx
      · exact hva x (by cases v with
          | none => cases hx
          | some y => rw [List.mem_singleton.mp hx])
      · exact (hvs x hx).le hle) (fun i x hi => (hvl i x hi).le hle) (by rw [b7]; show cells + mc + c0.1 = S.1.length + mc; omega) (by rw [b8]; show slots + ms + c0.2 = slz S.1 + ms; omega)
    rw [List.map_append, cvs_eq hvs b5 (fun _ => b6)] at h1
    exact h1
  have hA1' : ∀ q, q < H.size → A1 q → A q := fun q _ hq => hA1 q hq
  unfold QM at hr
  split at hr
  · exact va_callv hr hS hA1' hf (fun u t H1 locs1 ht hvm hw hB hz hk1 hS1 => fin none u t H1 locs1 ht hw (fun x hx => by cases hx) hB hS1)
  · exact va_calll hr hS hA1' hf (fun r u t H1 locs1 ht hvm hw hB hz hk1 hS1 => fin (some (aL r)) u t H1 locs1 ht hw (fun x hx => by cases hx; exact VA.l) hB hS1)
  · refine va_callq hr hS hA1' hf (fun r u t H1 locs1 ht hvm hw hB hz hk1 hS1 => ?_)
    obtain ⟨o, ho, hm, hΨ⟩ := hw
    have h1 := fin (some (.inr o)) u t H1 locs1 ht hΨ (fun x hx => by
      cases hx
      intro a' e'
      exact Or.inl (hm a' (Sum.inr.inj e'))) hB hS1
    have hro : va_rf r = cv u.2 (.inr o) := by
      rw [ho]
      cases o <;> rfl
    rw [hro]
    exact h1
  · exact va_calli hr hS hA1' hf (fun r u t H1 locs1 ht hvm hw hB hz hk1 hS1 => fin (some (aI r)) u t H1 locs1 ht hw (fun x hx => by cases hx; exact VA.i) hB hS1)
theorem noScr_mem : ∀ {as : List AV}, noScr as = true → ∀ v ∈ as, VA scr S v → VA False S v
  | .inl x :: r, h, v, hv, hva => by
    rcases List.mem_cons.mp hv with rfl | hv
    · exact fun a e => by cases e
    · exact noScr_mem (as := r) h v hv hva
  | .inr none :: r, h, v, hv, hva => by
    rcases List.mem_cons.mp hv with rfl | hv
    · exact fun a e => by cases e
    · exact noScr_mem (as := r) h v hv hva
  | .inr (some a) :: r, h, v, hv, hva => by
    have h' : (!(Nat.beq a.1 900) && noScr r) = true := h
    rw [Bool.and_eq_true, Bool.not_eq_true'] at h'
    rcases List.mem_cons.mp hv with rfl | hv
    · intro a' e'
      cases e'
      refine Or.inl ((hva a rfl).elim id (fun z => ?_))
      have h1 := h'.1
      rw [z.2] at h1
      cases h1
    · exact noScr_mem (as := r) h'.2 v hv hva
theorem cb_of (C : CX p s m args meth c R D cA A H0 c0 cap mi) {mc : MI} {idx y n1 n0 : Nat} (hcode : Cond.code mc.1 mc.2.1 mc.2.2.1 mc.2.2.2.1 ∈ lw_tbl) (h0 : mc.1.cls ≠ "java/lang/invoke/MethodHandle" ∧ mc.1.cls ≠ "java/lang/invoke/VarHandle" ∧ (parseMethodDescriptor mc.1.desc).map (fun d => d.parameters.length) = some y) (hroom : mc.2.2.2.2.1 + 1 ≤ mi.2.2.2.2.1 ∧ 8 + (mc.2.2.1 + 11) + mc.2.2.2.2.2.2.2.1 ≤ mi.2.2.2.2.2.2.2.1) (hini : hasW n1 (.initialized mc.1.cls) = true) (hl : hasW n0 (.methodLink mi.1.cls idx mc.1) = true) : CallB R s args mi.1.cls idx mc.1 mc.2.1 mc.2.2.1 mc.2.2.2.1 (wsM mc) (rmM mc) mc.2.2.2.2.2.1 mc.2.2.2.2.2.2.1 y := by
  obtain ⟨hx, hb, hml, hown, hts, hNW, hnm, hK, hA, hRf, hRl, hcap⟩ := C
  exact callB_of (Ts := TG) y hts (TG.goodM hcode) rfl rfl rfl (hts _ (TG.in (hasW.in hini) rfl)) (hts _ (TG.in (hasW.in hl) rfl)) h0 (by rw [hRf, hRl]; exact hroom)
theorem cn_of (C : CX p s m args meth c R D cA A H0 c0 cap mi) {mc : MI} {idx y n1 : Nat} {host : String} (hcode : Cond.code mc.1 mc.2.1 mc.2.2.1 mc.2.2.2.1 ∈ lw_tbl) (h0 : mc.1.cls ≠ "java/lang/invoke/MethodHandle" ∧ mc.1.cls ≠ "java/lang/invoke/VarHandle" ∧ (parseMethodDescriptor mc.1.desc).map (fun d => d.parameters.length) = some y) (hroom : mc.2.2.2.2.1 + 1 ≤ mi.2.2.2.2.1 ∧ 8 + (mc.2.2.1 + 11) + mc.2.2.2.2.2.2.2.1 ≤ mi.2.2.2.2.2.2.2.1) (hini : hasW n1 (.initialized mc.1.cls) = true) (hl : Cond.methodLinkNest mi.1.cls idx mc.1 host ∈ lw_tbl) : va_CN R s args mi.1.cls idx mc.1 host mc.2.1 mc.2.2.1 mc.2.2.2.1 (wsM mc) (rmM mc) mc.2.2.2.2.2.1 mc.2.2.2.2.2.2.1 y := by
  obtain ⟨hx, hb, hml, hown, hts, hNW, hnm, hK, hA, hRf, hRl, hcap⟩ := C
  exact va_cnB (Ts := TG) y hts (TG.goodM hcode) rfl rfl rfl (hNW.1 _ _ _ _ hl) (hts _ (TG.in (hasW.in hini) rfl)) h0 (by rw [hRf, hRl]; exact hroom)
/-- a call, of any kind -/
theorem sim_call (C : CX p s m args meth c R D cA A H0 c0 cap mi) {R' : RC} (IH : Ctr l D cA R') (hcodes : ∀ mi ∈ mths, Cond.code mi.1 mi.2.1 mi.2.2.1 mi.2.2.2.1 ∈ lw_tbl) (hk : k = SB p l e R s m args below meth c D cA A H0 scr b mi.2.2.1 c0 Q) {x y w idx : Nat} {tl : List Nat} {ins : Instr} (hdg : decode mi.2.1 pc = .ok (ins, 3)) (hc : ckC mths mi idx x y w tl = true)
    (hi : (ins = .invokestatic idx ∧ (w % 10 = 0 ∨ w % 10 = 1) ∧ callK R' mth cap k x y pc loc st S) ∨ (ins = .invokevirtual idx ∧ (w % 10 = 2 ∨ w % 10 = 3) ∧ (∃ i, st[y]? = some (aR (w / 10) i)) ∧ callK R' mth cap k x (y + 1) pc loc st S) ∨ (ins = .invokespecial idx ∧ (w % 10 = 4 ∨ w % 10 = 5) ∧ (∃ F i, st[y]? = some (aR F i)) ∧ callK R' mth cap k x (y + 1) pc loc st S)) : SB p l e R s m args below meth c D cA A H0 scr b mi.2.2.1 c0 Q pc loc st S := by
  have C' := C
  obtain ⟨hx, hb, hml, hown, hts, hNW, hnm, hK, hA, hRf, hRl, hcap⟩ := C
  subst hk
  intro ad H locs cells slots ls hP hD hS hV hsc hl hll hvs hvl hcc hcs
  unfold ckC at hc
  split at hc
  · next mc hmc =>
    simp only [Bool.and_eq_true, decide_eq_true_eq] at hc
    obtain ⟨q0, q1, q2, q4⟩ := hc
    have hcode := hcodes mc (List.mem_of_getElem? hmc)
    -- the call's parts
    have hn : ∃ n, n ≤ st.length ∧ callK R' mth cap (SB p l e R s m args below meth c D cA A H0 scr b mi.2.2.1 c0 Q) x n pc loc st S ∧ ((ins = .invokestatic idx ∧ (w % 10 = 0 ∨ w % 10 = 1) ∧ n = y) ∨ (ins = .invokevirtual idx ∧ (w % 10 = 2 ∨ w % 10 = 3) ∧ n = y + 1 ∧ ∃ i, st[y]? = some (aR (w / 10) i)) ∨ (ins = .invokespecial idx ∧ (w % 10 = 4 ∨ w % 10 = 5) ∧ n = y + 1 ∧ ∃ F i, st[y]? = some (aR F i))) := by
      rcases hi with ⟨a1, a2, a3⟩ | ⟨a1, a2, a3, a4⟩ | ⟨a1, a2, a3, a4⟩
      · have a3' := a3
        obtain ⟨_, _, hle, _⟩ := a3'
        exact ⟨y, hle, a3, Or.inl ⟨a1, a2, rfl⟩⟩
      · have a4' := a4
        obtain ⟨_, _, hle, _⟩ := a4'
        exact ⟨y + 1, hle, a4, Or.inr (Or.inl ⟨a1, a2, rfl, a3⟩)⟩
      · have a4' := a4
        obtain ⟨_, _, hle, _⟩ := a4'
        exact ⟨y + 1, hle, a4, Or.inr (Or.inr ⟨a1, a2, rfl, a3⟩)⟩
    obtain ⟨n, hnl, hcall, hkind⟩ := hn
    obtain ⟨mi2, hmi2, -, hcat, hns, hcp1, hcp2, Ψ, hR, hcont⟩ := hcall
    have hmm : mi2 = mc := Option.some.inj (hmi2.symm.trans hmc)
    subst hmm
    rw [hcap] at hcp1 hcp2
    simp only at hcp1 hcp2
    have hva : ∀ v ∈ (st.take n).reverse, VA False S v := fun v hv => noScr_mem hns v (List.mem_reverse.mp hv) (hvs v (List.mem_of_mem_take (List.mem_reverse.mp hv)))
    have hM := IH x mi2 hmi2 ((st.take n).reverse) S Ψ hR hV hva ad H.size
    have hvr : ∀ v ∈ st.drop n, VA scr S v := fun v hv => hvs v (List.mem_of_mem_drop hv)
    have hFc : ∀ q, va_A (wsD cA ad S) H.size q → A q := by
      intro q hq
      rcases hq with ⟨i, e', hq⟩ | hq
      · exact hD.2 i _ hq
      · exact hA q (Nat.le_trans hS.1 hq)
    have hstk : st.map (cv ad) = (((st.take n).reverse).map (cv ad)).reverse ++ (st.drop n).map (cv ad) := by
      rw [← List.map_reverse, List.reverse_reverse, ← List.map_append, List.take_append_drop]
    have hW : 2 * (F0 m pc ls (st.map (cv ad))).monitorRoom + (((st.drop n).map (cv ad)).map fun v => v.category).sum ≤ 8 := by
      rw [aCats_cv]
      show 2 * 0 + _ ≤ 8
      omega
    have hlen : ((st.take n).reverse).length = n := by simp; omega
    have hFB : FrameBlind (va_Pc (((st.take n).reverse).map (cv ad)) (fun U => U.heap.size = H.size ∧ va_P D vwCl (wsD cA ad S) U.heap ∧ va_K D vwCl (TYS cA) U ∧ va_D (fun _ => True) (wsD cA ad S) ∧ NWs U)) := fun a U g mk q => by
      obtain ⟨q0, q1, qP, qK, qD, qN⟩ := q
      exact ⟨q0, q1, qP, va_K.moved (u := U) (U := U.calling g mk a) (Vm.Alike.refl U.vm) qK, qD, ⟨fun a1 i1 y1 h1 hw => va_Nw.same rfl rfl (qN.1 a1 i1 y1 h1 hw), fun C1 hw => va_AO.moved (Vm.Alike.refl U.vm) (qN.2 C1 hw)⟩⟩
    have hpre : ∀ U : State, U.heap = H → s.WarmedH U.vm → va_Pc (((st.take n).reverse).map (cv ad)) (fun U => U.heap.size = H.size ∧ va_P D vwCl (wsD cA ad S) U.heap ∧ va_K D vwCl (TYS cA) U ∧ va_D (fun _ => True) (wsD cA ad S) ∧ NWs U) (((st.take n).reverse).map (cv ad)).toArray U := fun U hU hW => ⟨rfl, by rw [hU], by rw [hU]; exact hP, va_K.moved hW.alike hK, hD.weaken (fun _ _ _ _ => trivial), hNW.warm hW⟩
    have hbud : cells + mi2.2.2.2.2.2.1 ≤ R.cells ∧ slots + mi2.2.2.2.2.2.2.1 ≤ R.slots := ⟨by omega, by omega⟩
    -- the receiver, where there is one
    have hrecv : n = y + 1 → ∀ F i, st[y]? = some (aR F i) → (st.take n).reverse = aR F i :: (st.take y).reverse := by
      intro e1 F i hy
      subst e1
      rw [List.take_succ, hy]
      simp
    rcases hkind with ⟨a1, a2, a3⟩ | ⟨a1, a2, a3, i, hy⟩ | ⟨a1, a2, a3, F, i, hy⟩
    · subst a1
      subst a3
      rcases a2 with a2 | a2
      · rw [show Nat.beq (w % 2) 0 = true by rw [show w % 2 = 0 by omega]; rfl, show Nat.blt (w % 10) 2 = true by rw [a2]; rfl] at q4
        simp only [cond_true, Bool.and_eq_true] at q4
        refine sim_back C' (Ψ := Ψ) (va_runS (As := ((st.take n).reverse).map (cv ad)) (rest := (st.drop n).map (cv ad)) ⟨hx, hb, hml, hown, hts⟩ hM ⟨cb_of C' hcode q0 q1 q2 q4.1, hts _ (TG.in (hasW.in q4.2) rfl)⟩ ⟨hFB, hpre⟩ rfl (by rw [List.length_map]; exact hlen) hl.1 hstk hW hdg hbud) hS hFc hFc hV hsc hl hll hvr hvl hcc hcs hcont
      · rw [show Nat.beq (w % 2) 0 = false by rw [show w % 2 = 1 by omega]; rfl, show Nat.blt (w % 10) 2 = true by rw [a2]; rfl] at q4
        simp only [cond_true, cond_false, Bool.and_eq_true] at q4
        obtain ⟨host, hh⟩ := hasN.in q4.1
        refine sim_back C' (Ψ := Ψ) (va_runSN (host := host) (As := ((st.take n).reverse).map (cv ad)) (rest := (st.drop n).map (cv ad)) ⟨hx, hb, hml, hown, hts⟩ hM ⟨cn_of C' hcode q0 q1 q2 hh, hts _ (TG.in (hasW.in q4.2) rfl), trivial⟩ ⟨hFB, hpre⟩ rfl (by rw [List.length_map]; exact hlen) hl.1 hstk hW hdg hbud) hS hFc hFc hV hsc hl hll hvr hvl hcc hcs hcont
    · subst a1
      have hre := hrecv a3 _ _ hy
      have hmr : (w / 10, i) ∈ S.1 := (hva _ (by rw [hre]; exact List.mem_cons_self) (w / 10, i) rfl).elim id (fun z => z.1.elim)
      have hmv : ((st.take n).reverse).map (cv ad) = .ref (ad (w / 10) i) :: ((st.take y).reverse).map (cv ad) := by rw [hre]; rfl
      rw [hmv] at hstk hpre hFB hM
      have hly : ((st.take y).reverse).length = y := by simp; omega
      have hstk2 : st.map (cv ad) = (((st.take y).reverse).map (cv ad)).reverse ++ .ref (ad (w / 10) i) :: (st.drop n).map (cv ad) := by rw [hstk]; simp
      obtain ⟨p0, hp0, he⟩ := wsD_at (cA := cA) (ad := ad) hmr
      rcases a2 with a2 | a2
      · rw [show Nat.beq (w % 2) 0 = true by rw [show w % 2 = 0 by omega]; rfl, show Nat.blt (w % 10) 2 = false by rw [a2]; rfl, show Nat.blt (w % 10) 4 = true by rw [a2]; rfl] at q4
        simp only [cond_true, cond_false, Bool.and_eq_true, decide_eq_true_eq, Option.map_eq_some_iff] at q4
        obtain ⟨r1, r2, r3, qq, hqq, hqn⟩ := q4
        have hF8 : w / 10 < 8 := (List.getElem?_eq_some_iff.mp hqq).1
        rw [cellD_obj (by omega)] at he
        have hrc := va_recv hK hP hqq he
        rw [hqn] at hrc
        refine sim_back C' (Ψ := Ψ) (va_runV (As := ((st.take y).reverse).map (cv ad)) (rest := (st.drop n).map (cv ad)) ⟨hx, hb, hml, hown, hts⟩ hM ⟨cb_of C' hcode q0 q1 q2 r1, hts _ (TG.in (hasW.in r2) rfl), hts _ (TG.in (hasW.in r3) rfl)⟩ ⟨hFB, hrc, hpre⟩ rfl (by rw [List.length_map]; exact hly) hl.1 hstk2 hW hdg hbud) hS hFc hFc hV hsc hl hll hvr hvl hcc hcs hcont
      · rw [show Nat.beq (w % 2) 0 = false by rw [show w % 2 = 1 by omega]; rfl, show Nat.blt (w % 10) 2 = false by rw [a2]; rfl, show Nat.blt (w % 10) 4 = true by rw [a2]; rfl] at q4
        simp only [cond_true, cond_false, Bool.and_eq_true, decide_eq_true_eq, Option.map_eq_some_iff] at q4
        obtain ⟨r1, r2, r3, qq, hqq, hqn⟩ := q4
        obtain ⟨host, hh⟩ := hasN.in r1
        have hF8 : w / 10 < 8 := (List.getElem?_eq_some_iff.mp hqq).1
        rw [cellD_obj (by omega)] at he
        have hrc := va_recv hK hP hqq he
        rw [hqn] at hrc
        refine sim_back C' (Ψ := Ψ) (va_runVN (host := host) (As := ((st.take y).reverse).map (cv ad)) (rest := (st.drop n).map (cv ad)) ⟨hx, hb, hml, hown, hts⟩ hM ⟨cn_of C' hcode q0 q1 q2 hh, hts _ (TG.in (hasW.in r2) rfl), hts _ (TG.in (hasW.in r3) rfl)⟩ ⟨hFB, hrc, hpre⟩ rfl (by rw [List.length_map]; exact hly) hl.1 hstk2 hW hdg hbud) hS hFc hFc hV hsc hl hll hvr hvl hcc hcs hcont
    · subst a1
      have hre := hrecv a3 _ _ hy
      have hmv : ((st.take n).reverse).map (cv ad) = .ref (ad F i) :: ((st.take y).reverse).map (cv ad) := by rw [hre]; rfl
      rw [hmv] at hstk hpre hFB hM
      have hly : ((st.take y).reverse).length = y := by simp; omega
      have hstk2 : st.map (cv ad) = (((st.take y).reverse).map (cv ad)).reverse ++ .ref (ad F i) :: (st.drop n).map (cv ad) := by rw [hstk]; simp
      rcases a2 with a2 | a2
      · rw [show Nat.beq (w % 2) 0 = true by rw [show w % 2 = 0 by omega]; rfl, show Nat.blt (w % 10) 2 = false by rw [a2]; rfl, show Nat.blt (w % 10) 4 = false by rw [a2]; rfl] at q4
        simp only [cond_true, cond_false, Bool.and_eq_true, decide_eq_true_eq] at q4
        obtain ⟨r1, r2, r3, r4⟩ := q4
        have hcb := cb_of C' hcode q0 q1 q2 r1
        rw [r4] at hcb
        refine sim_back C' (Ψ := Ψ) (va_runI (As := ((st.take y).reverse).map (cv ad)) (rest := (st.drop n).map (cv ad)) ⟨hx, hb, hml, hown, hts⟩ hM ⟨hcb, r3, hts _ (TG.in (hasW.in r2) rfl)⟩ ⟨hFB, hpre⟩ rfl (by rw [List.length_map]; exact hly) hl.1 hstk2 hW hdg hbud) hS hFc hFc hV hsc hl hll hvr hvl hcc hcs hcont
      · rw [show Nat.beq (w % 2) 0 = false by rw [show w % 2 = 1 by omega]; rfl, show Nat.blt (w % 10) 2 = false by rw [a2]; rfl, show Nat.blt (w % 10) 4 = false by rw [a2]; rfl] at q4
        simp only [cond_true, cond_false, Bool.and_eq_true, decide_eq_true_eq] at q4
        obtain ⟨r1, r2, r3, r4⟩ := q4
        obtain ⟨host, hh⟩ := hasN.in r1
        have hcn := cn_of C' hcode q0 q1 q2 hh
        rw [r4] at hcn
        refine sim_back C' (Ψ := Ψ) (va_runIN (host := host) (As := ((st.take y).reverse).map (cv ad)) (rest := (st.drop n).map (cv ad)) ⟨hx, hb, hml, hown, hts⟩ hM ⟨hcn, r3, hts _ (TG.in (hasW.in r2) rfl)⟩ ⟨hFB, hpre⟩ rfl (by rw [List.length_map]; exact hly) hl.1 hstk2 hW hdg hbud) hS hFc hFc hV hsc hl hll hvr hvl hcc hcs hcont
  · cases hc
end SIM4
end
section
section SIM5
variable {p : Program} {l : Launch} {e : Env} {R : Room} {s : State} {m : MethodId} {args : Array Value} {below : List Frame} {meth : Method} {c : Code} {D : va_G} {cA : Nat → ClassId} {A : Nat → Prop} {H0 : Heap} {scr : Prop} {b : Nat × List (Nat × Nat) × (Nat → Nat → Nat)} {c0 cap : Nat × Nat} {Q : State → Prop} {mi : MI} {sc : Nat × (Nat → Int32)}
theorem sim_if {k : Nat → Prop} {pc : Nat} {P : Prop} {x : Nat} (ht : P → k x) (hf : ¬ P → k (pc + 3)) : (P → k x) ∧ (¬ P → k (pc + 3)) := ⟨ht, hf⟩
set_option maxHeartbeats 4000000 in
theorem sim_step (C : CX p s m args meth c R D cA A H0 c0 cap mi) {R' : RC} (IH : Ctr l D cA R') (hcodes : ∀ mi ∈ mths, Cond.code mi.1 mi.2.1 mi.2.2.1 mi.2.2.2.1 ∈ lw_tbl) (hck : ckM mths mi = true) (hX : scr → va_X b.1 sc.1 sc.2 s H0 ∧ b.1 < H0.size ∧ ¬ A b.1) {ret : Option AV → DS → Prop}
    (hret : ∀ (v : Option AV) (S : DS) (pc : Nat) (ad : Nat → Nat → Nat) (H : Heap) (locs : List Loc) (cells slots : Nat) (ls : Array Slot), decode mi.2.1 pc = .ok (rIns v, 1) → ret v S → va_P D vwCl (wsD cA ad S) H → va_D A (wsD cA ad S) → va_S A H0 H locs → VS S → SCI scr b ad S.1 → (∀ x, v = some x → VA scr S x) → cells + c0.1 = S.1.length → slots + c0.2 = slz S.1 → W p l e R s m args below meth c H locs cells slots Q (F0 m pc ls (v.toList.map (cv ad))))
    : ∀ (pc : Nat) (loc : List (Option AV)) (st : List AV) (S : DS), Step R' mth cap sc ret (lkp mi.2.2.2.2.2.2.2.2) (SB p l e R s m args below meth c D cA A H0 scr b mi.2.2.1 c0 Q) pc loc st S → SB p l e R s m args below meth c D cA A H0 scr b mi.2.2.1 c0 Q pc loc st S := by
  intro pc loc st S hstep
  obtain ⟨en, he, hst⟩ := hstep
  have hck' := ckM.at hck he
  obtain ⟨ins, x, y, w, z, tl⟩ := en
  simp only [ckE, Bool.and_eq_true, decide_eq_true_eq] at hck'
  obtain ⟨hdg, hci⟩ := hck'
  have C' := C
  obtain ⟨hx, hb, hml, hown, hts, hNW, hnm, hK, hA, hRf, hRl, hcap⟩ := C
  cases ins with
  | iload_n i =>
    intro ad H locs cells slots ls hP hD hS hV hsc hl hll hvs hvl hcc hcs
    obtain ⟨v, h1, hk⟩ := hst
    exact lv_iload_n hx hb hdg rfl (hl.2.2 _ _ h1) (hk ad H locs cells slots ls hP hD hS hV hsc hl hll (fm VA.i hvs) hvl hcc hcs)
  | iload i =>
    intro ad H locs cells slots ls hP hD hS hV hsc hl hll hvs hvl hcc hcs
    obtain ⟨v, h1, hk⟩ := hst
    exact lv_iload hx hb hdg (hl.2.2 _ _ h1) (hk ad H locs cells slots ls hP hD hS hV hsc hl hll (fm VA.i hvs) hvl hcc hcs)
  | lload_n i =>
    intro ad H locs cells slots ls hP hD hS hV hsc hl hll hvs hvl hcc hcs
    obtain ⟨v, h1, hk⟩ := hst
    exact lv_lload_n hx hb hdg rfl (hl.2.2 _ _ h1) (hk ad H locs cells slots ls hP hD hS hV hsc hl hll (fm VA.l hvs) hvl hcc hcs)
  | lload i =>
    intro ad H locs cells slots ls hP hD hS hV hsc hl hll hvs hvl hcc hcs
    obtain ⟨v, h1, hk⟩ := hst
    exact lv_lload hx hb hdg (hl.2.2 _ _ h1) (hk ad H locs cells slots ls hP hD hS hV hsc hl hll (fm VA.l hvs) hvl hcc hcs)
  | aload_n i =>
    intro ad H locs cells slots ls hP hD hS hV hsc hl hll hvs hvl hcc hcs
    obtain ⟨o, h1, hk⟩ := hst
    cases o with
    | none => exact lv_aload_nN hx hb hdg rfl (hl.2.2 _ _ h1) (hk ad H locs cells slots ls hP hD hS hV hsc hl hll (fm VA.n hvs) hvl hcc hcs)
    | some a => exact lv_aload_n hx hb hdg rfl (hl.2.2 _ _ h1) (hk ad H locs cells slots ls hP hD hS hV hsc hl hll (fm (hvl _ _ h1) hvs) hvl hcc hcs)
  | istore_n i =>
    intro ad H locs cells slots ls hP hD hS hV hsc hl hll hvs hvl hcc hcs
    obtain ⟨v, r, l9, rfl, h1, hk⟩ := hst
    exact lv_istore_n hx hb hdg rfl hl.has (by rw [← hll]; exact lst1_lt h1) rfl (fun ls9 hl9 => hk ad H locs cells slots ls9 hP hD hS hV hsc (LV.st1 h1 hl9) ((lst1_len h1).trans hll) (fmt hvs) (lst1_va h1 VA.i hvl) hcc hcs)
  | lstore_n i =>
    intro ad H locs cells slots ls hP hD hS hV hsc hl hll hvs hvl hcc hcs
    obtain ⟨v, r, l9, rfl, h1, hk⟩ := hst
    exact lv_lstore_n hx hb hdg rfl hl.has (by rw [← hll]; exact lst2_lt h1) rfl (fun ls9 hl9 => hk ad H locs cells slots ls9 hP hD hS hV hsc (LV.st2 h1 hl9) ((lst2_len h1).trans hll) (fmt hvs) (lst2_va h1 VA.l hvl) hcc hcs)
  | astore_n i =>
    intro ad H locs cells slots ls hP hD hS hV hsc hl hll hvs hvl hcc hcs
    obtain ⟨o, r, l9, rfl, h1, hk⟩ := hst
    cases o with
    | none => exact lv_astore_nN hx hb hdg rfl hl.has (by rw [← hll]; exact lst1_lt h1) rfl (fun ls9 hl9 => hk ad H locs cells slots ls9 hP hD hS hV hsc (LV.st1 h1 hl9) ((lst1_len h1).trans hll) (fmt hvs) (lst1_va h1 VA.n hvl) hcc hcs)
    | some a => exact lv_astore_n hx hb hdg rfl hl.has (by rw [← hll]; exact lst1_lt h1) rfl (fun ls9 hl9 => hk ad H locs cells slots ls9 hP hD hS hV hsc (LV.st1 h1 hl9) ((lst1_len h1).trans hll) (fmt hvs) (lst1_va h1 (fmh hvs) hvl) hcc hcs)
  | aload i =>
    intro ad H locs cells slots ls hP hD hS hV hsc hl hll hvs hvl hcc hcs
    obtain ⟨o, h1, hk⟩ := hst
    cases o with
    | none => exact lv_aloadN hx hb hdg (hl.2.2 _ _ h1) (hk ad H locs cells slots ls hP hD hS hV hsc hl hll (fm VA.n hvs) hvl hcc hcs)
    | some a => exact lv_aload hx hb hdg (hl.2.2 _ _ h1) (hk ad H locs cells slots ls hP hD hS hV hsc hl hll (fm (hvl _ _ h1) hvs) hvl hcc hcs)
  | istore i =>
    intro ad H locs cells slots ls hP hD hS hV hsc hl hll hvs hvl hcc hcs
    obtain ⟨v, r, l9, rfl, h1, hk⟩ := hst
    exact lv_istore hx hb hdg hl.has (by rw [← hll]; exact lst1_lt h1) rfl (fun ls9 hl9 => hk ad H locs cells slots ls9 hP hD hS hV hsc (LV.st1 h1 hl9) ((lst1_len h1).trans hll) (fmt hvs) (lst1_va h1 VA.i hvl) hcc hcs)
  | lstore i =>
    intro ad H locs cells slots ls hP hD hS hV hsc hl hll hvs hvl hcc hcs
    obtain ⟨v, r, l9, rfl, h1, hk⟩ := hst
    exact lv_lstore hx hb hdg hl.has (by rw [← hll]; exact lst2_lt h1) rfl (fun ls9 hl9 => hk ad H locs cells slots ls9 hP hD hS hV hsc (LV.st2 h1 hl9) ((lst2_len h1).trans hll) (fmt hvs) (lst2_va h1 VA.l hvl) hcc hcs)
  | astore i =>
    intro ad H locs cells slots ls hP hD hS hV hsc hl hll hvs hvl hcc hcs
    obtain ⟨o, r, l9, rfl, h1, hk⟩ := hst
    cases o with
    | none => exact lv_astoreN hx hb hdg hl.has (by rw [← hll]; exact lst1_lt h1) rfl (fun ls9 hl9 => hk ad H locs cells slots ls9 hP hD hS hV hsc (LV.st1 h1 hl9) ((lst1_len h1).trans hll) (fmt hvs) (lst1_va h1 VA.n hvl) hcc hcs)
    | some a => exact lv_astore hx hb hdg hl.has (by rw [← hll]; exact lst1_lt h1) rfl (fun ls9 hl9 => hk ad H locs cells slots ls9 hP hD hS hV hsc (LV.st1 h1 hl9) ((lst1_len h1).trans hll) (fmt hvs) (lst1_va h1 (fmh hvs) hvl) hcc hcs)
  | iinc i n =>
    intro ad H locs cells slots ls hP hD hS hV hsc hl hll hvs hvl hcc hcs
    obtain ⟨v, l9, h0, h1, hk⟩ := hst
    obtain ⟨q9, hq9⟩ := List.getElem?_of_mem (lvl_mem.mpr ⟨_, h0, rfl⟩ : (i, Value.int v) ∈ lvl ad loc)
    exact lv_iinc hx hb hdg hl.has hq9 rfl (by rw [← hll]; exact lst1_lt h1) rfl (fun ls9 hl9 => hk ad H locs cells slots ls9 hP hD hS hV hsc (LV.st1 h1 hl9) ((lst1_len h1).trans hll) hvs (lst1_va h1 VA.i hvl) hcc hcs)
  | iconst n =>
    intro ad H locs cells slots ls hP hD hS hV hsc hl hll hvs hvl hcc hcs
    exact lv_iconst hx hb hdg rfl (hst ad H locs cells slots ls hP hD hS hV hsc hl hll (fm VA.i hvs) hvl hcc hcs)
  | bipush n =>
    intro ad H locs cells slots ls hP hD hS hV hsc hl hll hvs hvl hcc hcs
    exact lv_bipush hx hb hdg rfl (hst ad H locs cells slots ls hP hD hS hV hsc hl hll (fm VA.i hvs) hvl hcc hcs)
  | sipush n =>
    intro ad H locs cells slots ls hP hD hS hV hsc hl hll hvs hvl hcc hcs
    exact lv_sipush hx hb hdg rfl (hst ad H locs cells slots ls hP hD hS hV hsc hl hll (fm VA.i hvs) hvl hcc hcs)
  | lconst n =>
    intro ad H locs cells slots ls hP hD hS hV hsc hl hll hvs hvl hcc hcs
    exact lv_lconst hx hb hdg rfl (hst ad H locs cells slots ls hP hD hS hV hsc hl hll (fm VA.l hvs) hvl hcc hcs)
  | aconst_null =>
    intro ad H locs cells slots ls hP hD hS hV hsc hl hll hvs hvl hcc hcs
    exact lv_null hx hb hdg (hst ad H locs cells slots ls hP hD hS hV hsc hl hll (fm VA.n hvs) hvl hcc hcs)
  | ldc i =>
    intro ad H locs cells slots ls hP hD hS hV hsc hl hll hvs hvl hcc hcs
    exact lv_ldc hx hb hown (hts _ (TG.in (hasW.in hci) rfl)) hdg (hst ad H locs cells slots ls hP hD hS hV hsc hl hll (fm VA.i hvs) hvl hcc hcs)
  | ldc_w i =>
    intro ad H locs cells slots ls hP hD hS hV hsc hl hll hvs hvl hcc hcs
    exact lv_ldcw hx hb hown (hts _ (TG.in (hasW.in hci) rfl)) hdg (hst ad H locs cells slots ls hP hD hS hV hsc hl hll (fm VA.i hvs) hvl hcc hcs)
  | ldc2_w i =>
    intro ad H locs cells slots ls hP hD hS hV hsc hl hll hvs hvl hcc hcs
    exact lv_ldc2 hx hb hown (hts _ (TG.in (hasW.in hci) rfl)) hdg (hst ad H locs cells slots ls hP hD hS hV hsc hl hll (fm VA.l hvs) hvl hcc hcs)
  | iadd =>
    intro ad H locs cells slots ls hP hD hS hV hsc hl hll hvs hvl hcc hcs
    obtain ⟨a9, b9, r, rfl, hk⟩ := hst
    exact lv_iadd hx hb hdg (hk ad H locs cells slots ls hP hD hS hV hsc hl hll (fm VA.i (fmt (fmt hvs))) hvl hcc hcs)
  | isub =>
    intro ad H locs cells slots ls hP hD hS hV hsc hl hll hvs hvl hcc hcs
    obtain ⟨a9, b9, r, rfl, hk⟩ := hst
    exact lv_isub hx hb hdg (hk ad H locs cells slots ls hP hD hS hV hsc hl hll (fm VA.i (fmt (fmt hvs))) hvl hcc hcs)
  | imul =>
    intro ad H locs cells slots ls hP hD hS hV hsc hl hll hvs hvl hcc hcs
    obtain ⟨a9, b9, r, rfl, hk⟩ := hst
    exact lv_imul hx hb hdg (hk ad H locs cells slots ls hP hD hS hV hsc hl hll (fm VA.i (fmt (fmt hvs))) hvl hcc hcs)
  | iand =>
    intro ad H locs cells slots ls hP hD hS hV hsc hl hll hvs hvl hcc hcs
    obtain ⟨a9, b9, r, rfl, hk⟩ := hst
    exact lv_iand hx hb hdg (hk ad H locs cells slots ls hP hD hS hV hsc hl hll (fm VA.i (fmt (fmt hvs))) hvl hcc hcs)
  | ior =>
    intro ad H locs cells slots ls hP hD hS hV hsc hl hll hvs hvl hcc hcs
    obtain ⟨a9, b9, r, rfl, hk⟩ := hst
    exact lv_ior hx hb hdg (hk ad H locs cells slots ls hP hD hS hV hsc hl hll (fm VA.i (fmt (fmt hvs))) hvl hcc hcs)
  | ixor =>
    intro ad H locs cells slots ls hP hD hS hV hsc hl hll hvs hvl hcc hcs
    obtain ⟨a9, b9, r, rfl, hk⟩ := hst
    exact lv_ixor hx hb hdg (hk ad H locs cells slots ls hP hD hS hV hsc hl hll (fm VA.i (fmt (fmt hvs))) hvl hcc hcs)
  | ishl =>
    intro ad H locs cells slots ls hP hD hS hV hsc hl hll hvs hvl hcc hcs
    obtain ⟨a9, b9, r, rfl, hk⟩ := hst
    exact lv_ishl hx hb hdg (hk ad H locs cells slots ls hP hD hS hV hsc hl hll (fm VA.i (fmt (fmt hvs))) hvl hcc hcs)
  | ishr =>
    intro ad H locs cells slots ls hP hD hS hV hsc hl hll hvs hvl hcc hcs
    obtain ⟨a9, b9, r, rfl, hk⟩ := hst
    exact lv_ishr hx hb hdg (hk ad H locs cells slots ls hP hD hS hV hsc hl hll (fm VA.i (fmt (fmt hvs))) hvl hcc hcs)
  | ladd =>
    intro ad H locs cells slots ls hP hD hS hV hsc hl hll hvs hvl hcc hcs
    obtain ⟨a9, b9, r, rfl, hk⟩ := hst
    exact lv_ladd hx hb hdg (hk ad H locs cells slots ls hP hD hS hV hsc hl hll (fm VA.l (fmt (fmt hvs))) hvl hcc hcs)
  | lsub =>
    intro ad H locs cells slots ls hP hD hS hV hsc hl hll hvs hvl hcc hcs
    obtain ⟨a9, b9, r, rfl, hk⟩ := hst
    exact lv_lsub hx hb hdg (hk ad H locs cells slots ls hP hD hS hV hsc hl hll (fm VA.l (fmt (fmt hvs))) hvl hcc hcs)
  | lmul =>
    intro ad H locs cells slots ls hP hD hS hV hsc hl hll hvs hvl hcc hcs
    obtain ⟨a9, b9, r, rfl, hk⟩ := hst
    exact lv_lmul hx hb hdg (hk ad H locs cells slots ls hP hD hS hV hsc hl hll (fm VA.l (fmt (fmt hvs))) hvl hcc hcs)
  | land =>
    intro ad H locs cells slots ls hP hD hS hV hsc hl hll hvs hvl hcc hcs
    obtain ⟨a9, b9, r, rfl, hk⟩ := hst
    exact lv_land hx hb hdg (hk ad H locs cells slots ls hP hD hS hV hsc hl hll (fm VA.l (fmt (fmt hvs))) hvl hcc hcs)
  | lor =>
    intro ad H locs cells slots ls hP hD hS hV hsc hl hll hvs hvl hcc hcs
    obtain ⟨a9, b9, r, rfl, hk⟩ := hst
    exact lv_lor hx hb hdg (hk ad H locs cells slots ls hP hD hS hV hsc hl hll (fm VA.l (fmt (fmt hvs))) hvl hcc hcs)
  | lxor =>
    intro ad H locs cells slots ls hP hD hS hV hsc hl hll hvs hvl hcc hcs
    obtain ⟨a9, b9, r, rfl, hk⟩ := hst
    exact lv_lxor hx hb hdg (hk ad H locs cells slots ls hP hD hS hV hsc hl hll (fm VA.l (fmt (fmt hvs))) hvl hcc hcs)
  | iushr =>
    intro ad H locs cells slots ls hP hD hS hV hsc hl hll hvs hvl hcc hcs
    obtain ⟨a9, b9, r, rfl, hk⟩ := hst
    exact lv_iushr hx hb hdg rfl (hk ad H locs cells slots ls hP hD hS hV hsc hl hll (fm VA.i (fmt (fmt hvs))) hvl hcc hcs)
  | lshl =>
    intro ad H locs cells slots ls hP hD hS hV hsc hl hll hvs hvl hcc hcs
    obtain ⟨a9, b9, r, rfl, hk⟩ := hst
    exact lv_lshl hx hb hdg rfl (hk ad H locs cells slots ls hP hD hS hV hsc hl hll (fm VA.l (fmt (fmt hvs))) hvl hcc hcs)
  | lshr =>
    intro ad H locs cells slots ls hP hD hS hV hsc hl hll hvs hvl hcc hcs
    obtain ⟨a9, b9, r, rfl, hk⟩ := hst
    exact lv_lshr hx hb hdg rfl (hk ad H locs cells slots ls hP hD hS hV hsc hl hll (fm VA.l (fmt (fmt hvs))) hvl hcc hcs)
  | lushr =>
    intro ad H locs cells slots ls hP hD hS hV hsc hl hll hvs hvl hcc hcs
    obtain ⟨a9, b9, r, rfl, hk⟩ := hst
    exact lv_lushr hx hb hdg rfl (hk ad H locs cells slots ls hP hD hS hV hsc hl hll (fm VA.l (fmt (fmt hvs))) hvl hcc hcs)
  | lcmp =>
    intro ad H locs cells slots ls hP hD hS hV hsc hl hll hvs hvl hcc hcs
    obtain ⟨a9, b9, r, rfl, hk⟩ := hst
    exact W.lcmp hx hb hdg (hk ad H locs cells slots ls hP hD hS hV hsc hl hll (fm VA.i (fmt (fmt hvs))) hvl hcc hcs)
  | idiv =>
    intro ad H locs cells slots ls hP hD hS hV hsc hl hll hvs hvl hcc hcs
    obtain ⟨a9, b9, r, rfl, h1, hk⟩ := hst
    exact lv_idiv hx hb hdg h1 (hk ad H locs cells slots ls hP hD hS hV hsc hl hll (fm VA.i (fmt (fmt hvs))) hvl hcc hcs)
  | irem =>
    intro ad H locs cells slots ls hP hD hS hV hsc hl hll hvs hvl hcc hcs
    obtain ⟨a9, b9, r, rfl, h1, hk⟩ := hst
    exact lv_irem hx hb hdg h1 (hk ad H locs cells slots ls hP hD hS hV hsc hl hll (fm VA.i (fmt (fmt hvs))) hvl hcc hcs)
  | ldiv =>
    intro ad H locs cells slots ls hP hD hS hV hsc hl hll hvs hvl hcc hcs
    obtain ⟨a9, b9, r, rfl, h1, hk⟩ := hst
    exact lv_ldiv hx hb hdg h1 (hk ad H locs cells slots ls hP hD hS hV hsc hl hll (fm VA.l (fmt (fmt hvs))) hvl hcc hcs)
  | i2l =>
    intro ad H locs cells slots ls hP hD hS hV hsc hl hll hvs hvl hcc hcs
    obtain ⟨a9, r, rfl, hk⟩ := hst
    exact lv_i2l hx hb hdg rfl (hk ad H locs cells slots ls hP hD hS hV hsc hl hll (fm VA.l (fmt hvs)) hvl hcc hcs)
  | l2i =>
    intro ad H locs cells slots ls hP hD hS hV hsc hl hll hvs hvl hcc hcs
    obtain ⟨a9, r, rfl, hk⟩ := hst
    exact lv_l2i hx hb hdg rfl (hk ad H locs cells slots ls hP hD hS hV hsc hl hll (fm VA.i (fmt hvs)) hvl hcc hcs)
  | dup =>
    intro ad H locs cells slots ls hP hD hS hV hsc hl hll hvs hvl hcc hcs
    obtain ⟨a9, r, rfl, h1, hk⟩ := hst
    exact lv_dup hx hb hdg ((aCat_cv ad a9).trans h1) (hk ad H locs cells slots ls hP hD hS hV hsc hl hll (fm (fmh hvs) hvs) hvl hcc hcs)
  | dup2 =>
    intro ad H locs cells slots ls hP hD hS hV hsc hl hll hvs hvl hcc hcs
    obtain ⟨a9, b9, r, rfl, h1, h2, hk⟩ := hst
    exact lv_dup2_11 hx hb hdg ((aCat_cv ad a9).trans h1) ((aCat_cv ad b9).trans h2) (hk ad H locs cells slots ls hP hD hS hV hsc hl hll (fm (fmh hvs) (fm (fmh (fmt hvs)) hvs)) hvl hcc hcs)
  | pop =>
    intro ad H locs cells slots ls hP hD hS hV hsc hl hll hvs hvl hcc hcs
    obtain ⟨a9, r, rfl, h1, hk⟩ := hst
    exact lv_pop hx hb hdg ((aCat_cv ad a9).trans h1) (hk ad H locs cells slots ls hP hD hS hV hsc hl hll (fmt hvs) hvl hcc hcs)
  | goto off =>
    intro ad H locs cells slots ls hP hD hS hV hsc hl hll hvs hvl hcc hcs
    exact lv_goto hx hb hdg (of_decide_eq_true hci) (hst ad H locs cells slots ls hP hD hS hV hsc hl hll hvs hvl hcc hcs)
  | ifCond cn off =>
    intro ad H locs cells slots ls hP hD hS hV hsc hl hll hvs hvl hcc hcs
    obtain ⟨a9, r, rfl, h1, h2⟩ := hst
    have ht := of_decide_eq_true hci
    cases cn with
    | eq => exact lv_if_eq hx hb hdg ht (fun q => h1 q ad H locs cells slots ls hP hD hS hV hsc hl hll (fmt hvs) hvl hcc hcs) (fun q => h2 q ad H locs cells slots ls hP hD hS hV hsc hl hll (fmt hvs) hvl hcc hcs)
    | ne => exact lv_if_ne hx hb hdg ht (fun q => h1 q ad H locs cells slots ls hP hD hS hV hsc hl hll (fmt hvs) hvl hcc hcs) (fun q => h2 (fun g => g q) ad H locs cells slots ls hP hD hS hV hsc hl hll (fmt hvs) hvl hcc hcs)
    | lt => exact lv_if_lt hx hb hdg ht (fun q => h1 q ad H locs cells slots ls hP hD hS hV hsc hl hll (fmt hvs) hvl hcc hcs) (fun q => h2 q ad H locs cells slots ls hP hD hS hV hsc hl hll (fmt hvs) hvl hcc hcs)
    | ge => exact lv_if_ge hx hb hdg ht (fun q => h1 q ad H locs cells slots ls hP hD hS hV hsc hl hll (fmt hvs) hvl hcc hcs) (fun q => h2 q ad H locs cells slots ls hP hD hS hV hsc hl hll (fmt hvs) hvl hcc hcs)
    | gt => exact lv_if_gt hx hb hdg ht (fun q => h1 q ad H locs cells slots ls hP hD hS hV hsc hl hll (fmt hvs) hvl hcc hcs) (fun q => h2 q ad H locs cells slots ls hP hD hS hV hsc hl hll (fmt hvs) hvl hcc hcs)
    | le => exact lv_if_le hx hb hdg ht (fun q => h1 q ad H locs cells slots ls hP hD hS hV hsc hl hll (fmt hvs) hvl hcc hcs) (fun q => h2 q ad H locs cells slots ls hP hD hS hV hsc hl hll (fmt hvs) hvl hcc hcs)
  | if_icmp cn off =>
    intro ad H locs cells slots ls hP hD hS hV hsc hl hll hvs hvl hcc hcs
    obtain ⟨a9, b9, r, rfl, h1, h2⟩ := hst
    have ht := of_decide_eq_true hci
    cases cn with
    | eq => exact lv_icmp_eq hx hb hdg ht (fun q => h1 q ad H locs cells slots ls hP hD hS hV hsc hl hll (fmt (fmt hvs)) hvl hcc hcs) (fun q => h2 q ad H locs cells slots ls hP hD hS hV hsc hl hll (fmt (fmt hvs)) hvl hcc hcs)
    | ne => exact lv_icmp_ne hx hb hdg ht (fun q => h1 q ad H locs cells slots ls hP hD hS hV hsc hl hll (fmt (fmt hvs)) hvl hcc hcs) (fun q => h2 (fun g => g q) ad H locs cells slots ls hP hD hS hV hsc hl hll (fmt (fmt hvs)) hvl hcc hcs)
    | lt => exact lv_icmp_lt hx hb hdg ht (fun q => h1 q ad H locs cells slots ls hP hD hS hV hsc hl hll (fmt (fmt hvs)) hvl hcc hcs) (fun q => h2 q ad H locs cells slots ls hP hD hS hV hsc hl hll (fmt (fmt hvs)) hvl hcc hcs)
    | ge => exact lv_icmp_ge hx hb hdg ht (fun q => h1 q ad H locs cells slots ls hP hD hS hV hsc hl hll (fmt (fmt hvs)) hvl hcc hcs) (fun q => h2 q ad H locs cells slots ls hP hD hS hV hsc hl hll (fmt (fmt hvs)) hvl hcc hcs)
    | gt => exact lv_icmp_gt hx hb hdg ht (fun q => h1 q ad H locs cells slots ls hP hD hS hV hsc hl hll (fmt (fmt hvs)) hvl hcc hcs) (fun q => h2 q ad H locs cells slots ls hP hD hS hV hsc hl hll (fmt (fmt hvs)) hvl hcc hcs)
    | le => exact lv_icmp_le hx hb hdg ht (fun q => h1 q ad H locs cells slots ls hP hD hS hV hsc hl hll (fmt (fmt hvs)) hvl hcc hcs) (fun q => h2 q ad H locs cells slots ls hP hD hS hV hsc hl hll (fmt (fmt hvs)) hvl hcc hcs)
  | ifnull off =>
    intro ad H locs cells slots ls hP hD hS hV hsc hl hll hvs hvl hcc hcs
    obtain ⟨o9, r, rfl, h1, h2⟩ := hst
    have ht := of_decide_eq_true hci
    cases o9 with
    | none => exact lv_ifnullN hx hb hdg ht (h1 rfl ad H locs cells slots ls hP hD hS hV hsc hl hll (fmt hvs) hvl hcc hcs)
    | some a => exact lv_ifnull hx hb hdg (h2 a rfl ad H locs cells slots ls hP hD hS hV hsc hl hll (fmt hvs) hvl hcc hcs)
  | ifnonnull off =>
    intro ad H locs cells slots ls hP hD hS hV hsc hl hll hvs hvl hcc hcs
    obtain ⟨o9, r, rfl, h1, h2⟩ := hst
    have ht := of_decide_eq_true hci
    cases o9 with
    | none => exact lv_ifnonnullN hx hb hdg (h1 rfl ad H locs cells slots ls hP hD hS hV hsc hl hll (fmt hvs) hvl hcc hcs)
    | some a => exact lv_ifnonnull hx hb hdg ht (h2 a rfl ad H locs cells slots ls hP hD hS hV hsc hl hll (fmt hvs) hvl hcc hcs)
  | tableswitch d9 lo hi offs =>
    intro ad H locs cells slots ls hP hD hS hV hsc hl hll hvs hvl hcc hcs
    obtain ⟨v, r, rfl, h1, h2⟩ := hst
    simp only [ckI, Bool.and_eq_true, decide_eq_true_eq] at hci
    obtain ⟨g1, g2, g3⟩ := hci
    by_cases hr9 : v.toInt < lo ∨ hi < v.toInt
    · exact lv_tableOut hx hb hdg hr9 g1 (h1 hr9 ad H locs cells slots ls hP hD hS hV hsc hl hll (fmt hvs) hvl hcc hcs)
    · have e1 : ¬ v.toInt < lo := fun q => hr9 (Or.inl q)
      have e2 : ¬ hi < v.toInt := fun q => hr9 (Or.inr q)
      have hn : (v.toInt - lo).toNat < offs.size := by omega
      have ho : offs[(v.toInt - lo).toNat]? = some offs[(v.toInt - lo).toNat] := by simp [hn]
      have hlt : (tl.map Int.ofNat)[(v.toInt - lo).toNat]? = some ((pc : Int) + offs[(v.toInt - lo).toNat]) := by
        rw [g3, List.getElem?_map, Array.getElem?_toList, ho]
        rfl
      rw [List.getElem?_map] at hlt
      obtain ⟨t9, ht9, hte⟩ := Option.map_eq_some_iff.mp hlt
      exact lv_tableIn hx hb hdg e1 e2 ho hte.symm (h2 _ t9 ht9 (by omega) ad H locs cells slots ls hP hD hS hV hsc hl hll (fmt hvs) hvl hcc hcs)
  | lookupswitch d9 ps =>
    intro ad H locs cells slots ls hP hD hS hV hsc hl hll hvs hvl hcc hcs
    obtain ⟨v, r, rfl, h1, h2⟩ := hst
    simp only [ckI, Bool.and_eq_true, decide_eq_true_eq] at hci
    obtain ⟨g1, g2, g3⟩ := hci
    have key : (Op.lookupswitch.offset ps.toList d9 v.toInt = d9 ∧ ∀ q : Int × Int, q ∈ ps.toList → q.1 ≠ v.toInt) ∨ ∃ (n : Nat) (q : Int × Int), ps.toList[n]? = some q ∧ q.1 = v.toInt ∧ Op.lookupswitch.offset ps.toList d9 v.toInt = q.2 := by
      generalize ps.toList = L
      induction L with
      | nil => exact Or.inl ⟨rfl, fun q hq => by cases hq⟩
      | cons a L ih =>
        obtain ⟨a1, a2⟩ := a
        rw [Op.lookupswitch.offset_cons]
        by_cases ha : a1 = v.toInt
        · rw [if_pos ha]
          exact Or.inr ⟨0, (a1, a2), rfl, ha, rfl⟩
        · rw [if_neg ha]
          rcases ih with ⟨i1, i2⟩ | ⟨n, q, i1, i2, i3⟩
          · exact Or.inl ⟨i1, fun q hq => by
              rcases List.mem_cons.mp hq with rfl | hq
              · exact ha
              · exact i2 q hq⟩
          · exact Or.inr ⟨n + 1, q, i1, i2, i3⟩
    rcases key with ⟨k1, k2⟩ | ⟨n, q, k1, k2, k3⟩
    · exact lv_lookup hx hb hdg g2 k1 g1 (h1 k2 ad H locs cells slots ls hP hD hS hV hsc hl hll (fmt hvs) hvl hcc hcs)
    · have hlt : (tl.map Int.ofNat)[n]? = some ((pc : Int) + q.2) := by
        rw [g3, List.getElem?_map, k1]
        rfl
      rw [List.getElem?_map] at hlt
      obtain ⟨t9, ht9, hte⟩ := Option.map_eq_some_iff.mp hlt
      exact lv_lookup hx hb hdg g2 k3 hte.symm (h2 n t9 q ht9 k1 k2.symm ad H locs cells slots ls hP hD hS hV hsc hl hll (fmt hvs) hvl hcc hcs)
  | getfield i =>
    exact sim_get C' rfl hdg hci hst
  | putfield i =>
    exact sim_put C' rfl hdg (Bool.and_eq_true _ _ |>.mp hci).1 (Bool.and_eq_true _ _ |>.mp hci).2 hst
  | iaload =>
    exact sim_iald C' rfl hX hdg hst
  | laload =>
    exact sim_lald C' rfl hdg hst
  | aaload =>
    exact sim_aald C' rfl hdg hst
  | iastore =>
    exact sim_iast C' rfl hdg hst
  | lastore =>
    exact sim_last C' rfl hdg hst
  | aastore =>
    exact sim_aast C' rfl hdg hst
  | arraylength =>
    exact sim_alen C' rfl hX hdg hst
  | new i =>
    exact sim_new C' rfl hdg hci hst
  | newarray t =>
    cases t with
    | int =>
      simp only [ckI, Bool.and_eq_true, decide_eq_true_eq] at hci
      exact sim_newI C' rfl hdg hci.1 hci.2 hst
    | long =>
      simp only [ckI, Bool.and_eq_true, decide_eq_true_eq] at hci
      exact sim_newL C' rfl hdg hci.1 hci.2 hst
    | _ => cases hci
  | anewarray i =>
    exact sim_newR C' rfl hdg hci hst
  | invokevirtual i =>
    simp only [ckI, Bool.and_eq_true, decide_eq_true_eq] at hci
    obtain ⟨⟨a9, i9, b9, q1, rfl, q3⟩, hcall⟩ := hst
    exact sim_call C' IH hcodes rfl hdg hci.1 (Or.inr (Or.inl ⟨rfl, hci.2, ⟨i9, by rw [← q3]; exact q1⟩, hcall⟩))
  | invokespecial i =>
    by_cases hw : w = 6
    · subst hw
      simp only [ckI, Bool.and_eq_true, decide_eq_true_eq, show Nat.beq 6 6 = true from rfl, cond_true] at hci
      exact sim_obj C' rfl hdg hci.1 hci.2.1 hci.2.2.1 hci.2.2.2 hst
    · simp only [ckI, show Nat.beq w 6 = false from by cases hb9 : Nat.beq w 6 with | false => rfl | true => exact absurd (Nat.eq_of_beq_eq_true hb9) hw, cond_false, Bool.and_eq_true, decide_eq_true_eq] at hci
      simp only [StepI, hw, if_false] at hst
      exact sim_call C' IH hcodes rfl hdg hci.1 (Or.inr (Or.inr ⟨rfl, hci.2, hst.1, hst.2⟩))
  | invokestatic i =>
    by_cases hw : w = 7
    · subst hw
      simp only [ckI, Bool.and_eq_true, decide_eq_true_eq, show Nat.beq 7 7 = true from rfl, cond_true] at hci
      exact sim_copy C' rfl hdg hci.1 hci.2.1 hci.2.2.1 hci.2.2.2.1 hci.2.2.2.2 hst
    · by_cases hw8 : w = 8
      · subst hw8
        simp only [ckI, Bool.and_eq_true, decide_eq_true_eq, show Nat.beq 8 7 = false from rfl, show Nat.beq 8 8 = true from rfl, cond_true, cond_false] at hci
        exact sim_max C' rfl hdg hci.1 hci.2.1 hci.2.2.1 hci.2.2.2.1 hci.2.2.2.2 hst
      simp only [ckI, show Nat.beq w 7 = false from by cases hb9 : Nat.beq w 7 with | false => rfl | true => exact absurd (Nat.eq_of_beq_eq_true hb9) hw, show Nat.beq w 8 = false from by cases hb9 : Nat.beq w 8 with | false => rfl | true => exact absurd (Nat.eq_of_beq_eq_true hb9) hw8, cond_false, Bool.and_eq_true, decide_eq_true_eq] at hci
      simp only [StepI, hw, hw8, if_false] at hst
      exact sim_call C' IH hcodes rfl hdg hci.1 (Or.inl ⟨rfl, hci.2, hst⟩)
  | ireturn =>
    intro ad H locs cells slots ls hP hD hS hV hsc hl hll hvs hvl hcc hcs
    obtain ⟨v, rfl, h1⟩ := hst
    exact hret (some (aI v)) S pc ad H locs cells slots ls hdg h1 hP hD hS hV hsc (fun x hx => by cases hx; exact VA.i) hcc hcs
  | lreturn =>
    intro ad H locs cells slots ls hP hD hS hV hsc hl hll hvs hvl hcc hcs
    obtain ⟨v, rfl, h1⟩ := hst
    exact hret (some (aL v)) S pc ad H locs cells slots ls hdg h1 hP hD hS hV hsc (fun x hx => by cases hx; exact VA.l) hcc hcs
  | areturn =>
    intro ad H locs cells slots ls hP hD hS hV hsc hl hll hvs hvl hcc hcs
    obtain ⟨v, rfl, h1⟩ := hst
    exact hret (some (.inr v)) S pc ad H locs cells slots ls hdg h1 hP hD hS hV hsc (fun x hx => by cases hx; exact fmh hvs) hcc hcs
  | return_ =>
    intro ad H locs cells slots ls hP hD hS hV hsc hl hll hvs hvl hcc hcs
    obtain ⟨rfl, h1⟩ := hst
    exact hret none S pc ad H locs cells slots ls hdg h1 hP hD hS hV hsc (fun x hx => by cases hx) hcc hcs
  | _ => exact hst.elim
theorem sim_main (C : CX p s m args meth c R D cA A H0 c0 cap mi) {R' : RC} (IH : Ctr l D cA R') (hcodes : ∀ mi ∈ mths, Cond.code mi.1 mi.2.1 mi.2.2.1 mi.2.2.2.1 ∈ lw_tbl) (hck : ckM mths mi = true) (hX : scr → va_X b.1 sc.1 sc.2 s H0 ∧ b.1 < H0.size ∧ ¬ A b.1) {ret : Option AV → DS → Prop}
    (hret : ∀ (v : Option AV) (S : DS) (pc : Nat) (ad : Nat → Nat → Nat) (H : Heap) (locs : List Loc) (cells slots : Nat) (ls : Array Slot), decode mi.2.1 pc = .ok (rIns v, 1) → ret v S → va_P D vwCl (wsD cA ad S) H → va_D A (wsD cA ad S) → va_S A H0 H locs → VS S → SCI scr b ad S.1 → (∀ x, v = some x → VA scr S x) → cells + c0.1 = S.1.length → slots + c0.2 = slz S.1 → W p l e R s m args below meth c H locs cells slots Q (F0 m pc ls (v.toList.map (cv ad))))
    : ∀ (pc : Nat) (loc : List (Option AV)) (st : List AV) (S : DS), Ev R' mth cap sc ret (lkp mi.2.2.2.2.2.2.2.2) pc loc st S → SB p l e R s m args below meth c D cA A H0 scr b mi.2.2.1 c0 Q pc loc st S :=
  fun pc loc st S hev => hev _ (sim_step C IH hcodes hck hX hret)
end SIM5
theorem locG_va {S : DS} {P : DS → AV → Prop} : ∀ {as : List AV}, (∀ v ∈ as, P S v) → ∀ (i : Nat) v, (locG as)[i]? = some (some v) → P S v
  | [], h, i, v, hi => by simp [locG] at hi
  | u :: as, h, i, v, hi => by
    obtain (x | x) | o := u
    · cases i with
      | zero =>
        have e : v = _ := (Option.some.inj (Option.some.inj hi)).symm
        subst e
        exact fmh h
      | succ i => exact locG_va (fmt h) i v hi
    · cases i with
      | zero =>
        have e : v = _ := (Option.some.inj (Option.some.inj hi)).symm
        subst e
        exact fmh h
      | succ i =>
        cases i with
        | zero => cases hi
        | succ i => exact locG_va (fmt h) i v hi
    · cases i with
      | zero =>
        have e : v = _ := (Option.some.inj (Option.some.inj hi)).symm
        subst e
        exact fmh h
      | succ i => exact locG_va (fmt h) i v hi
/-- all methods' contracts -/
theorem Ctr_all (l : Launch) (D : va_G) (cA : Nat → ClassId) (hcodes : ∀ mi ∈ mths, Cond.code mi.1 mi.2.1 mi.2.2.1 mi.2.2.2.1 ∈ lw_tbl) (hcks : ∀ mi ∈ mths, ckM mths mi = true) (hpl : ∀ mi ∈ mths, plainName mi.1.cls = true) (hrt : ∀ mi ∈ mths, (∃ C, mi.2.2.2.1 = some (.object C)) ∨ mi.2.2.2.1 = none ∨ mi.2.2.2.1 = some .int ∨ mi.2.2.2.1 = some .long ∨ mi.2.2.2.1 = some .boolean) : ∀ d : Nat, Ctr l D cA (EvM mth d) := by
  intro d
  induction d with
  | zero => exact fun x mi hmi as S Ψ h => h.elim
  | succ d ih =>
    intro x mi hmi as S Ψ h hV hva ad sz
    obtain ⟨mi2, hmi2, hlen, hev⟩ := h
    have hmm : mi2 = mi := Option.some.inj (hmi2.symm.trans hmi)
    subst hmm
    have hmem : mi2 ∈ mths := List.mem_of_getElem? hmi
    refine Met.ofW (cc := mi2.2.1) (maxL := mi2.2.2.1) (ret := mi2.2.2.2.1) (hpl _ hmem) rfl ?_
    intro p e s m args below meth c s₁ B hml hv
    obtain ⟨rfl, hsz, hP, hK, hD0, hNW⟩ := hv
    have hx := B.exec
    have hb := B.bytes
    have hr := B.returns
    have htsw := atoms_spec (ws := wsM mi2) B.pre
    have hts : ∀ w ∈ TG, w.before (as.map (cv ad)).toArray s = true := fun w hw => htsw w (List.mem_cons_of_mem _ hw)
    have hown : s.vm.findClass mi2.1.cls = some m.cls := findClass_of_methodNamed B.named
    have hlocks := B.notSynchronized
    have hin : meth.name = mi2.1.name := (name_of_methodNamed B.named B.method).1
    subst hsz
    have hD := hD0.self (sz := s.heap.size)
    have hA : ∀ q : Nat, s.heap.size ≤ q → va_A (wsD cA ad S) s.heap.size q := fun q h => Or.inr h
    rw [lg_entry_eq]
    have CC : CX p s m (as.map (cv ad)).toArray meth c (rmM mi2) D cA (va_A (wsD cA ad S) s.heap.size) s.heap (S.1.length, slz S.1) (capOf mi2 S) mi2 := ⟨hx, hb, hml, hown, hts, hNW, fun _ => hin, hK, hA, rfl, rfl, rfl⟩
    have h1 := sim_main (p := p) (l := l) (e := e) (below := below) (scr := False) (b := (0, S.1, ad)) (Q := MQ below (QM mi2.2.2.2.1 Ψ D cA ad S (capOf mi2 S) (va_A (wsD cA ad S) s.heap.size)) (as.map (cv ad)).toArray s mi2.2.2.2.2.2.1 mi2.2.2.2.2.2.2.1 (va_A (wsD cA ad S) s.heap.size)) CC ih hcodes (hcks _ hmem) (sc := (0, fun _ => 0)) (fun z => z.elim) (ret := retP mi2.2.2.2.1 (capOf mi2 S) Ψ) ?_ 0 (locA mi2.2.2.1 as) [] S hev
    · exact h1 ad s.heap [] 0 0 _ hP hD va_S.rf hV ⟨fun z => z.elim, ⟨[], (List.append_nil _).symm⟩, fun _ _ => rfl, rfl⟩ (LV.entry ad hlen) (by unfold locA; simp; omega) (fun v hv => by cases hv) (fun i v hi => by
        unfold locA at hi
        by_cases hl9 : i < (locG as).length
        · rw [List.getElem?_append_left hl9] at hi
          exact locG_va (P := fun S v => VA False S v) hva i v hi
        · rw [List.getElem?_append_right (by omega)] at hi
          have := List.eq_of_mem_replicate (List.mem_of_getElem? hi)
          cases this) (Nat.zero_add _) (Nat.zero_add _)
    · intro v S' pc ad' H locs cells slots ls hdg hrp hP1 hD1 hS1 hV1 hsc hvv hcc hcs
      obtain ⟨rt, rc1, rc2, hΨ⟩ := hrp
      have e1 : cells = mi2.2.2.2.2.2.1 := by
        have : cells + S.1.length = S'.1.length := hcc
        rw [rc1] at this
        have h9 : cells + S.1.length = S.1.length + mi2.2.2.2.2.2.1 := this
        omega
      have e2 : slots = mi2.2.2.2.2.2.2.1 := by
        have : slots + slz S.1 = slz S'.1 := hcs
        rw [rc2] at this
        have h9 : slots + slz S.1 = slz S.1 + mi2.2.2.2.2.2.2.1 := this
        omega
      rw [← e1, ← e2]
      obtain ⟨-, ⟨ex, g2⟩, g3, g4⟩ := hsc
      have hBU : ∀ t : State, t.heap = H → BU D cA ad S (capOf mi2 S) (va_A (wsD cA ad S) s.heap.size) (S', ad') t := fun t ht => ⟨by rw [ht]; exact hP1, hD1, hV1, ⟨ex, g2⟩, g3, g4, rc1, rc2⟩
      rcases hrt _ hmem with ⟨C9, hC9⟩ | h0 | h0 | h0 | h0
      · rw [hC9] at rt hr ⊢
        obtain ⟨o, ho⟩ := rt
        subst ho
        refine W.aret hx hb hr (Or.inl ⟨_, rfl⟩) (by cases o with | none => exact Or.inl rfl | some a => exact Or.inr ⟨_, rfl⟩) (fun t ht hW => ⟨⟨o.map (fun a => ad' a.1 a.2), (S', ad'), by cases o <;> rfl, ⟨o, rfl, fun a ha => ((hvv _ rfl) a (by rw [ha])).elim id (fun z => z.1.elim), hΨ⟩, hBU t ht⟩, hS1.F ht⟩) hS1.2.2 hdg
      · rw [h0] at rt hr ⊢
        have rt' : v = none := rt
        subst rt'
        exact W.vret hx hb hr (fun t ht hW => ⟨⟨(S', ad'), rfl, hΨ, hBU t ht⟩, hS1.F ht⟩) hS1.2.2 hdg
      · rw [h0] at rt hr ⊢
        obtain ⟨x9, hx9, -⟩ := rt
        subst hx9
        exact W.iret hx hb hr (fun t ht hW => ⟨⟨x9, (S', ad'), rfl, hΨ, hBU t ht⟩, hS1.F ht⟩) hS1.2.2 hdg
      · rw [h0] at rt hr ⊢
        obtain ⟨x9, hx9⟩ := rt
        subst hx9
        exact W.lret hx hb hr (fun t ht hW => ⟨⟨x9, (S', ad'), rfl, hΨ, hBU t ht⟩, hS1.F ht⟩) hS1.2.2 hdg
      · rw [h0] at rt hr ⊢
        obtain ⟨x9, hx9, hn9⟩ := rt
        subst hx9
        exact W.zret hx hb hr hn9 (fun t ht hW => ⟨⟨x9, (S', ad'), rfl, hΨ, hBU t ht⟩, hS1.F ht⟩) hS1.2.2 hdg
end
section
theorem cw_all : ∀ mi ∈ mths, Cond.code mi.1 mi.2.1 mi.2.2.1 mi.2.2.2.1 ∈ lw_tbl := sorry
theorem ck_all : ∀ mi ∈ mths, ckM mths mi = true := sorry
theorem ckL : ckM mths inL = true := sorry
theorem pl_s : (["HarbourTugs$Berths", "HarbourTugs$Harbour", "HarbourTugs$Planner", "HarbourTugs$Prices", "HarbourTugs$Ship", "HarbourTugs$Tug", "HarbourTugs", "HarbourTugsModel", "java/lang/Integer", "java/lang/Long"] : List String).all plainName = true := by decide +kernel
set_option maxRecDepth 100000 in
theorem pl_c : mths.all (fun mi => (["HarbourTugs$Berths", "HarbourTugs$Harbour", "HarbourTugs$Planner", "HarbourTugs$Prices", "HarbourTugs$Ship", "HarbourTugs$Tug", "HarbourTugs", "HarbourTugsModel", "java/lang/Integer", "java/lang/Long"] : List String).contains mi.1.cls) = true := by decide +kernel
theorem pl_all : ∀ mi ∈ mths, plainName mi.1.cls = true := fun mi h => List.all_eq_true.mp pl_s _ (List.contains_iff_mem.mp (List.all_eq_true.mp pl_c mi h))
set_option maxRecDepth 100000 in
theorem rt_all : ∀ mi ∈ mths, (∃ C, mi.2.2.2.1 = some (.object C)) ∨ mi.2.2.2.1 = none ∨ mi.2.2.2.1 = some .int ∨ mi.2.2.2.1 = some .long ∨ mi.2.2.2.1 = some .boolean := List.forall_mem_cons.mpr ⟨Or.inr (Or.inl rfl), List.forall_mem_cons.mpr ⟨Or.inr (Or.inr (Or.inl rfl)), List.forall_mem_cons.mpr ⟨Or.inr (Or.inr (Or.inl rfl)), List.forall_mem_cons.mpr ⟨Or.inr (Or.inr (Or.inr (Or.inr rfl))), List.forall_mem_cons.mpr ⟨Or.inr (Or.inl rfl), List.forall_mem_cons.mpr ⟨Or.inr (Or.inl rfl), List.forall_mem_cons.mpr ⟨Or.inr (Or.inr (Or.inl rfl)), List.forall_mem_cons.mpr ⟨Or.inr (Or.inr (Or.inr (Or.inr rfl))), List.forall_mem_cons.mpr ⟨Or.inr (Or.inr (Or.inr (Or.inl rfl))), List.forall_mem_cons.mpr ⟨Or.inr (Or.inr (Or.inl rfl)), List.forall_mem_cons.mpr ⟨Or.inr (Or.inr (Or.inl rfl)), List.forall_mem_cons.mpr ⟨Or.inr (Or.inr (Or.inl rfl)), List.forall_mem_cons.mpr ⟨Or.inr (Or.inr (Or.inl rfl)), List.forall_mem_cons.mpr ⟨Or.inr (Or.inr (Or.inr (Or.inr rfl))), List.forall_mem_cons.mpr ⟨Or.inr (Or.inr (Or.inr (Or.inl rfl))), List.forall_mem_cons.mpr ⟨Or.inr (Or.inr (Or.inr (Or.inl rfl))), List.forall_mem_cons.mpr ⟨Or.inr (Or.inr (Or.inr (Or.inr rfl))), List.forall_mem_cons.mpr ⟨Or.inr (Or.inr (Or.inr (Or.inr rfl))), List.forall_mem_cons.mpr ⟨Or.inl ⟨_, rfl⟩, List.forall_mem_cons.mpr ⟨Or.inl ⟨_, rfl⟩, List.forall_mem_cons.mpr ⟨Or.inr (Or.inr (Or.inr (Or.inr rfl))), List.forall_mem_cons.mpr ⟨Or.inr (Or.inr (Or.inl rfl)), List.forall_mem_cons.mpr ⟨Or.inr (Or.inr (Or.inr (Or.inr rfl))), List.forall_mem_cons.mpr ⟨Or.inr (Or.inr (Or.inr (Or.inr rfl))), List.forall_mem_cons.mpr ⟨Or.inr (Or.inr (Or.inr (Or.inr rfl))), List.forall_mem_cons.mpr ⟨Or.inr (Or.inr (Or.inl rfl)), List.forall_mem_cons.mpr ⟨Or.inr (Or.inr (Or.inl rfl)), List.forall_mem_cons.mpr ⟨Or.inr (Or.inr (Or.inl rfl)), List.forall_mem_cons.mpr ⟨Or.inr (Or.inr (Or.inr (Or.inr rfl))), List.forall_mem_cons.mpr ⟨Or.inr (Or.inl rfl), List.forall_mem_cons.mpr ⟨Or.inr (Or.inr (Or.inl rfl)), List.forall_mem_cons.mpr ⟨Or.inr (Or.inl rfl), List.forall_mem_cons.mpr ⟨Or.inr (Or.inl rfl), List.forall_mem_cons.mpr ⟨Or.inr (Or.inr (Or.inl rfl)), List.forall_mem_cons.mpr ⟨Or.inr (Or.inl rfl), List.forall_mem_cons.mpr ⟨Or.inr (Or.inr (Or.inl rfl)), List.forall_mem_cons.mpr ⟨Or.inr (Or.inr (Or.inl rfl)), List.forall_mem_cons.mpr ⟨Or.inr (Or.inr (Or.inl rfl)), List.forall_mem_cons.mpr ⟨Or.inr (Or.inr (Or.inr (Or.inr rfl))), List.forall_mem_cons.mpr ⟨Or.inr (Or.inr (Or.inl rfl)), List.forall_mem_cons.mpr ⟨Or.inr (Or.inl rfl), List.forall_mem_cons.mpr ⟨Or.inr (Or.inl rfl), List.forall_mem_cons.mpr ⟨Or.inr (Or.inl rfl), List.forall_mem_cons.mpr ⟨Or.inr (Or.inr (Or.inr (Or.inr rfl))), List.forall_mem_cons.mpr ⟨Or.inr (Or.inl rfl), List.forall_mem_cons.mpr ⟨Or.inr (Or.inl rfl), List.forall_mem_cons.mpr ⟨Or.inr (Or.inr (Or.inr (Or.inr rfl))), List.forall_mem_cons.mpr ⟨Or.inr (Or.inr (Or.inr (Or.inr rfl))), List.forall_mem_cons.mpr ⟨Or.inr (Or.inl rfl), List.forall_mem_cons.mpr ⟨Or.inr (Or.inr (Or.inr (Or.inr rfl))), List.forall_mem_cons.mpr ⟨Or.inr (Or.inr (Or.inr (Or.inl rfl))), List.forall_mem_cons.mpr ⟨Or.inr (Or.inr (Or.inr (Or.inr rfl))), List.forall_mem_cons.mpr ⟨Or.inr (Or.inl rfl), List.forall_mem_cons.mpr ⟨Or.inr (Or.inl rfl), List.forall_mem_cons.mpr ⟨Or.inr (Or.inl rfl), List.forall_mem_cons.mpr ⟨Or.inr (Or.inr (Or.inr (Or.inr rfl))), List.forall_mem_cons.mpr ⟨Or.inr (Or.inr (Or.inr (Or.inr rfl))), List.forall_mem_cons.mpr ⟨Or.inr (Or.inl rfl), List.forall_mem_cons.mpr ⟨Or.inr (Or.inr (Or.inl rfl)), List.forall_mem_cons.mpr ⟨Or.inr (Or.inr (Or.inr (Or.inr rfl))), List.forall_mem_cons.mpr ⟨Or.inr (Or.inr (Or.inr (Or.inl rfl))), List.forall_mem_cons.mpr ⟨Or.inr (Or.inr (Or.inr (Or.inl rfl))), List.forall_mem_cons.mpr ⟨Or.inr (Or.inr (Or.inl rfl)), List.forall_mem_cons.mpr ⟨Or.inr (Or.inl rfl), List.forall_mem_cons.mpr ⟨Or.inr (Or.inl rfl), List.forall_mem_cons.mpr ⟨Or.inr (Or.inl rfl), List.forall_mem_cons.mpr ⟨Or.inr (Or.inr (Or.inr (Or.inr rfl))), List.forall_mem_cons.mpr ⟨Or.inr (Or.inr (Or.inr (Or.inr rfl))), List.forall_mem_cons.mpr ⟨Or.inr (Or.inr (Or.inr (Or.inr rfl))), List.forall_mem_cons.mpr ⟨Or.inr (Or.inr (Or.inl rfl)), List.forall_mem_cons.mpr ⟨Or.inr (Or.inr (Or.inr (Or.inr rfl))), List.forall_mem_cons.mpr ⟨Or.inr (Or.inr (Or.inl rfl)), List.forall_mem_cons.mpr ⟨Or.inr (Or.inr (Or.inr (Or.inr rfl))), List.forall_mem_cons.mpr ⟨Or.inr (Or.inl rfl), List.forall_mem_cons.mpr ⟨Or.inr (Or.inr (Or.inl rfl)), List.forall_mem_cons.mpr ⟨Or.inr (Or.inr (Or.inl rfl)), List.forall_mem_cons.mpr ⟨Or.inr (Or.inr (Or.inl rfl)), List.forall_mem_cons.mpr ⟨Or.inr (Or.inr (Or.inl rfl)), List.forall_mem_cons.mpr ⟨Or.inr (Or.inr (Or.inl rfl)), List.forall_mem_cons.mpr ⟨Or.inr (Or.inr (Or.inl rfl)), List.forall_mem_cons.mpr ⟨Or.inr (Or.inr (Or.inl rfl)), List.forall_mem_cons.mpr ⟨Or.inr (Or.inr (Or.inl rfl)), List.forall_mem_cons.mpr ⟨Or.inr (Or.inr (Or.inl rfl)), List.forall_mem_cons.mpr ⟨Or.inr (Or.inr (Or.inl rfl)), List.forall_mem_cons.mpr ⟨Or.inr (Or.inr (Or.inl rfl)), List.forall_mem_cons.mpr ⟨Or.inr (Or.inr (Or.inl rfl)), List.forall_mem_cons.mpr ⟨Or.inr (Or.inr (Or.inl rfl)), List.forall_mem_cons.mpr ⟨Or.inr (Or.inr (Or.inl rfl)), List.forall_mem_cons.mpr ⟨Or.inr (Or.inr (Or.inl rfl)), List.forall_mem_cons.mpr ⟨Or.inr (Or.inr (Or.inl rfl)), List.forall_mem_cons.mpr ⟨Or.inr (Or.inr (Or.inl rfl)), List.forall_mem_cons.mpr ⟨Or.inr (Or.inr (Or.inl rfl)), List.forall_mem_cons.mpr ⟨Or.inr (Or.inr (Or.inl rfl)), List.forall_mem_cons.mpr ⟨Or.inr (Or.inr (Or.inl rfl)), List.forall_mem_cons.mpr ⟨Or.inr (Or.inr (Or.inl rfl)), List.forall_mem_cons.mpr ⟨Or.inr (Or.inr (Or.inl rfl)), List.forall_mem_cons.mpr ⟨Or.inr (Or.inr (Or.inl rfl)), List.forall_mem_cons.mpr ⟨Or.inr (Or.inr (Or.inl rfl)), List.forall_mem_cons.mpr ⟨Or.inr (Or.inr (Or.inr (Or.inl rfl))), List.forall_mem_cons.mpr ⟨Or.inr (Or.inr (Or.inl rfl)), List.forall_mem_cons.mpr ⟨Or.inr (Or.inr (Or.inr (Or.inl rfl))), List.forall_mem_cons.mpr ⟨Or.inr (Or.inr (Or.inl rfl)), List.forall_mem_cons.mpr ⟨Or.inr (Or.inr (Or.inl rfl)), List.forall_mem_cons.mpr ⟨Or.inr (Or.inr (Or.inl rfl)), List.forall_mem_cons.mpr ⟨Or.inr (Or.inr (Or.inl rfl)), List.forall_mem_cons.mpr ⟨Or.inr (Or.inr (Or.inr (Or.inr rfl))), List.forall_mem_cons.mpr ⟨Or.inr (Or.inr (Or.inr (Or.inr rfl))), List.forall_mem_cons.mpr ⟨Or.inr (Or.inr (Or.inr (Or.inr rfl))), List.forall_mem_cons.mpr ⟨Or.inr (Or.inr (Or.inr (Or.inr rfl))), List.forall_mem_cons.mpr ⟨Or.inr (Or.inr (Or.inr (Or.inr rfl))), List.forall_mem_cons.mpr ⟨Or.inr (Or.inr (Or.inr (Or.inr rfl))), List.forall_mem_cons.mpr ⟨Or.inr (Or.inr (Or.inr (Or.inr rfl))), List.forall_mem_cons.mpr ⟨Or.inr (Or.inr (Or.inr (Or.inl rfl))), List.forall_mem_cons.mpr ⟨Or.inr (Or.inr (Or.inr (Or.inr rfl))), List.forall_mem_cons.mpr ⟨Or.inr (Or.inl rfl), List.forall_mem_cons.mpr ⟨Or.inr (Or.inr (Or.inr (Or.inr rfl))), List.forall_mem_cons.mpr ⟨Or.inr (Or.inr (Or.inr (Or.inr rfl))), List.forall_mem_cons.mpr ⟨Or.inr (Or.inr (Or.inl rfl)), List.forall_mem_cons.mpr ⟨Or.inr (Or.inr (Or.inl rfl)), List.forall_mem_cons.mpr ⟨Or.inr (Or.inr (Or.inr (Or.inr rfl))), List.forall_mem_cons.mpr ⟨Or.inr (Or.inr (Or.inr (Or.inr rfl))), List.forall_mem_cons.mpr ⟨Or.inr (Or.inr (Or.inr (Or.inr rfl))), List.forall_mem_cons.mpr ⟨Or.inr (Or.inr (Or.inl rfl)), List.forall_mem_cons.mpr ⟨Or.inr (Or.inr (Or.inl rfl)), List.forall_mem_cons.mpr ⟨Or.inr (Or.inr (Or.inl rfl)), List.forall_mem_cons.mpr ⟨Or.inr (Or.inr (Or.inr (Or.inr rfl))), List.forall_mem_cons.mpr ⟨Or.inr (Or.inr (Or.inl rfl)), List.forall_mem_cons.mpr ⟨Or.inr (Or.inr (Or.inl rfl)), List.forall_mem_cons.mpr ⟨Or.inr (Or.inr (Or.inl rfl)), List.forall_mem_cons.mpr ⟨Or.inr (Or.inr (Or.inl rfl)), List.forall_mem_cons.mpr ⟨Or.inr (Or.inr (Or.inl rfl)), List.forall_mem_cons.mpr ⟨Or.inr (Or.inr (Or.inl rfl)), List.forall_mem_cons.mpr ⟨Or.inr (Or.inr (Or.inl rfl)), List.forall_mem_cons.mpr ⟨Or.inr (Or.inr (Or.inr (Or.inr rfl))), List.forall_mem_cons.mpr ⟨Or.inr (Or.inr (Or.inr (Or.inl rfl))), List.forall_mem_cons.mpr ⟨Or.inr (Or.inr (Or.inr (Or.inl rfl))), List.forall_mem_cons.mpr ⟨Or.inr (Or.inr (Or.inr (Or.inl rfl))), List.forall_mem_cons.mpr ⟨Or.inr (Or.inr (Or.inl rfl)), List.forall_mem_cons.mpr ⟨Or.inr (Or.inr (Or.inl rfl)), List.forall_mem_cons.mpr ⟨Or.inr (Or.inr (Or.inl rfl)), List.forall_mem_cons.mpr ⟨Or.inr (Or.inr (Or.inl rfl)), List.forall_mem_cons.mpr ⟨Or.inr (Or.inr (Or.inr (Or.inr rfl))), List.forall_mem_cons.mpr ⟨Or.inr (Or.inr (Or.inl rfl)), List.forall_mem_cons.mpr ⟨Or.inr (Or.inr (Or.inr (Or.inr rfl))), List.forall_mem_cons.mpr ⟨Or.inr (Or.inr (Or.inr (Or.inr rfl))), List.forall_mem_cons.mpr ⟨Or.inr (Or.inr (Or.inr (Or.inr rfl))), List.forall_mem_cons.mpr ⟨Or.inr (Or.inr (Or.inr (Or.inr rfl))), List.forall_mem_cons.mpr ⟨Or.inr (Or.inr (Or.inr (Or.inr rfl))), List.forall_mem_cons.mpr ⟨Or.inr (Or.inr (Or.inr (Or.inr rfl))), List.forall_mem_cons.mpr ⟨Or.inr (Or.inr (Or.inr (Or.inr rfl))), List.forall_mem_cons.mpr ⟨Or.inr (Or.inr (Or.inl rfl)), List.forall_mem_cons.mpr ⟨Or.inr (Or.inr (Or.inr (Or.inr rfl))), List.forall_mem_cons.mpr ⟨Or.inr (Or.inr (Or.inl rfl)), List.forall_mem_cons.mpr ⟨Or.inr (Or.inl rfl), List.forall_mem_cons.mpr ⟨Or.inr (Or.inr (Or.inl rfl)), List.forall_mem_cons.mpr ⟨Or.inr (Or.inr (Or.inl rfl)), List.forall_mem_cons.mpr ⟨Or.inr (Or.inr (Or.inl rfl)), List.forall_mem_cons.mpr ⟨Or.inr (Or.inr (Or.inl rfl)), List.forall_mem_cons.mpr ⟨Or.inr (Or.inr (Or.inr (Or.inr rfl))), List.forall_mem_cons.mpr ⟨Or.inr (Or.inr (Or.inr (Or.inr rfl))), List.forall_mem_cons.mpr ⟨Or.inr (Or.inr (Or.inl rfl)), List.forall_mem_cons.mpr ⟨Or.inr (Or.inr (Or.inl rfl)), List.forall_mem_cons.mpr ⟨Or.inr (Or.inl rfl), List.forall_mem_cons.mpr ⟨Or.inr (Or.inl rfl), List.forall_mem_cons.mpr ⟨Or.inr (Or.inl rfl), List.forall_mem_cons.mpr ⟨Or.inr (Or.inr (Or.inl rfl)), List.forall_mem_cons.mpr ⟨Or.inr (Or.inr (Or.inl rfl)), List.forall_mem_cons.mpr ⟨Or.inr (Or.inr (Or.inl rfl)), List.forall_mem_cons.mpr ⟨Or.inr (Or.inr (Or.inr (Or.inr rfl))), List.forall_mem_cons.mpr ⟨Or.inr (Or.inr (Or.inl rfl)), List.forall_mem_cons.mpr ⟨Or.inr (Or.inr (Or.inl rfl)), List.forall_mem_cons.mpr ⟨Or.inr (Or.inr (Or.inl rfl)), List.forall_mem_cons.mpr ⟨Or.inr (Or.inr (Or.inl rfl)), List.forall_mem_cons.mpr ⟨Or.inr (Or.inl rfl), List.forall_mem_cons.mpr ⟨Or.inr (Or.inr (Or.inl rfl)), List.forall_mem_cons.mpr ⟨Or.inr (Or.inr (Or.inl rfl)), List.forall_mem_cons.mpr ⟨Or.inr (Or.inr (Or.inr (Or.inr rfl))), List.forall_mem_cons.mpr ⟨Or.inr (Or.inr (Or.inl rfl)), List.forall_mem_cons.mpr ⟨Or.inr (Or.inr (Or.inl rfl)), List.forall_mem_cons.mpr ⟨Or.inr (Or.inr (Or.inl rfl)), List.forall_mem_cons.mpr ⟨Or.inr (Or.inr (Or.inl rfl)), List.forall_mem_cons.mpr ⟨Or.inr (Or.inr (Or.inl rfl)), List.forall_mem_cons.mpr ⟨Or.inr (Or.inr (Or.inl rfl)), List.forall_mem_cons.mpr ⟨Or.inr (Or.inr (Or.inr (Or.inr rfl))), List.forall_mem_cons.mpr ⟨Or.inr (Or.inr (Or.inr (Or.inl rfl))), List.forall_mem_cons.mpr ⟨Or.inr (Or.inr (Or.inl rfl)), List.forall_mem_cons.mpr ⟨Or.inr (Or.inr (Or.inr (Or.inl rfl))), List.forall_mem_cons.mpr ⟨Or.inr (Or.inr (Or.inl rfl)), List.forall_mem_cons.mpr ⟨Or.inr (Or.inr (Or.inl rfl)), List.forall_mem_cons.mpr ⟨Or.inr (Or.inr (Or.inl rfl)), List.forall_mem_cons.mpr ⟨Or.inr (Or.inr (Or.inl rfl)), List.forall_mem_cons.mpr ⟨Or.inr (Or.inr (Or.inl rfl)), List.forall_mem_cons.mpr ⟨Or.inr (Or.inr (Or.inl rfl)), List.forall_mem_cons.mpr ⟨Or.inr (Or.inr (Or.inl rfl)), fun _ h => absurd h List.not_mem_nil⟩⟩⟩⟩⟩⟩⟩⟩⟩⟩⟩⟩⟩⟩⟩⟩⟩⟩⟩⟩⟩⟩⟩⟩⟩⟩⟩⟩⟩⟩⟩⟩⟩⟩⟩⟩⟩⟩⟩⟩⟩⟩⟩⟩⟩⟩⟩⟩⟩⟩⟩⟩⟩⟩⟩⟩⟩⟩⟩⟩⟩⟩⟩⟩⟩⟩⟩⟩⟩⟩⟩⟩⟩⟩⟩⟩⟩⟩⟩⟩⟩⟩⟩⟩⟩⟩⟩⟩⟩⟩⟩⟩⟩⟩⟩⟩⟩⟩⟩⟩⟩⟩⟩⟩⟩⟩⟩⟩⟩⟩⟩⟩⟩⟩⟩⟩⟩⟩⟩⟩⟩⟩⟩⟩⟩⟩⟩⟩⟩⟩⟩⟩⟩⟩⟩⟩⟩⟩⟩⟩⟩⟩⟩⟩⟩⟩⟩⟩⟩⟩⟩⟩⟩⟩⟩⟩⟩⟩⟩⟩⟩⟩⟩⟩⟩⟩⟩⟩⟩⟩⟩⟩⟩⟩⟩⟩⟩⟩⟩⟩⟩⟩⟩⟩⟩⟩⟩⟩⟩⟩⟩⟩⟩⟩
end
section
/-! rules of the small machine, one an instruction -/
def bI (b : Bool) : Int32 := if b = true then 1 else 0
def gI (g : Nat → Nat → Nat → Int32) (F i j : Nat) (x : Int32) : Nat → Nat → Nat → Int32 := fun F' i' => if F' = F ∧ i' = i then upd (g F i) j x else g F' i'
def wL (w : Nat → Nat → Nat → Int64) (F i j : Nat) (x : Int64) : Nat → Nat → Nat → Int64 := fun F' i' => if F' = F ∧ i' = i then vp_updL (w F i) j x else w F' i'
def gRow (g : Nat → Nat → Nat → Int32) (F i : Nat) (f : Nat → Int32) : Nat → Nat → Nat → Int32 := fun F' i' => if F' = F ∧ i' = i then f else g F' i'
def Does (R : RC) (x : Nat) (as : List AV) (S : DS) (v : Option AV) (S' : DS) : Prop := ∀ Ψ : Option AV → DS → Prop, Ψ v S' → R x as S Ψ
section RULES
variable {R : RC} {cap : Nat × Nat} {sc : Nat × (Nat → Int32)} {ret : Option AV → DS → Prop} {tb : Nat → Option Ent} {pc pc' : Nat} {loc l' : List (Option AV)} {st : List AV} {S : DS}
theorem ev_iload_n {i : Fin 4} {x : Int32} (h : tb pc = some (e0 (.iload_n i))) (hp : pc + 1 = pc') (hl : loc[(i : Nat)]? = some (some (aI x))) (k : Ev R mth cap sc ret tb pc' loc (aI x :: st) S) : Ev R mth cap sc ret tb pc loc st S := by subst hp; exact Ev.mk ⟨_, h, x, hl, k⟩
theorem ev_iload {i : Nat} {x : Int32} (h : tb pc = some (e0 (.iload i))) (hp : pc + 2 = pc') (hl : loc[i]? = some (some (aI x))) (k : Ev R mth cap sc ret tb pc' loc (aI x :: st) S) : Ev R mth cap sc ret tb pc loc st S := by subst hp; exact Ev.mk ⟨_, h, x, hl, k⟩
theorem ev_istore_n {i : Fin 4} {x : Int32} (h : tb pc = some (e0 (.istore_n i))) (hp : pc + 1 = pc') (hl : lst1 loc (i : Nat) (aI x) = some l') (k : Ev R mth cap sc ret tb pc' l' st S) : Ev R mth cap sc ret tb pc loc (aI x :: st) S := by subst hp; exact Ev.mk ⟨_, h, x, st, l', rfl, hl, k⟩
theorem ev_istore {i : Nat} {x : Int32} (h : tb pc = some (e0 (.istore i))) (hp : pc + 2 = pc') (hl : lst1 loc i (aI x) = some l') (k : Ev R mth cap sc ret tb pc' l' st S) : Ev R mth cap sc ret tb pc loc (aI x :: st) S := by subst hp; exact Ev.mk ⟨_, h, x, st, l', rfl, hl, k⟩
theorem ev_lload_n {i : Fin 4} {x : Int64} (h : tb pc = some (e0 (.lload_n i))) (hp : pc + 1 = pc') (hl : loc[(i : Nat)]? = some (some (aL x))) (k : Ev R mth cap sc ret tb pc' loc (aL x :: st) S) : Ev R mth cap sc ret tb pc loc st S := by subst hp; exact Ev.mk ⟨_, h, x, hl, k⟩
theorem ev_lload {i : Nat} {x : Int64} (h : tb pc = some (e0 (.lload i))) (hp : pc + 2 = pc') (hl : loc[i]? = some (some (aL x))) (k : Ev R mth cap sc ret tb pc' loc (aL x :: st) S) : Ev R mth cap sc ret tb pc loc st S := by subst hp; exact Ev.mk ⟨_, h, x, hl, k⟩
theorem ev_lstore_n {i : Fin 4} {x : Int64} (h : tb pc = some (e0 (.lstore_n i))) (hp : pc + 1 = pc') (hl : lst2 loc (i : Nat) (aL x) = some l') (k : Ev R mth cap sc ret tb pc' l' st S) : Ev R mth cap sc ret tb pc loc (aL x :: st) S := by subst hp; exact Ev.mk ⟨_, h, x, st, l', rfl, hl, k⟩
theorem ev_lstore {i : Nat} {x : Int64} (h : tb pc = some (e0 (.lstore i))) (hp : pc + 2 = pc') (hl : lst2 loc i (aL x) = some l') (k : Ev R mth cap sc ret tb pc' l' st S) : Ev R mth cap sc ret tb pc loc (aL x :: st) S := by subst hp; exact Ev.mk ⟨_, h, x, st, l', rfl, hl, k⟩
theorem ev_aload_n {i : Fin 4} {x : Option (Nat × Nat)} (h : tb pc = some (e0 (.aload_n i))) (hp : pc + 1 = pc') (hl : loc[(i : Nat)]? = some (some (.inr x))) (k : Ev R mth cap sc ret tb pc' loc (.inr x :: st) S) : Ev R mth cap sc ret tb pc loc st S := by subst hp; exact Ev.mk ⟨_, h, x, hl, k⟩
theorem ev_aload {i : Nat} {x : Option (Nat × Nat)} (h : tb pc = some (e0 (.aload i))) (hp : pc + 2 = pc') (hl : loc[i]? = some (some (.inr x))) (k : Ev R mth cap sc ret tb pc' loc (.inr x :: st) S) : Ev R mth cap sc ret tb pc loc st S := by subst hp; exact Ev.mk ⟨_, h, x, hl, k⟩
theorem ev_astore_n {i : Fin 4} {x : Option (Nat × Nat)} (h : tb pc = some (e0 (.astore_n i))) (hp : pc + 1 = pc') (hl : lst1 loc (i : Nat) (.inr x) = some l') (k : Ev R mth cap sc ret tb pc' l' st S) : Ev R mth cap sc ret tb pc loc (.inr x :: st) S := by subst hp; exact Ev.mk ⟨_, h, x, st, l', rfl, hl, k⟩
theorem ev_astore {i : Nat} {x : Option (Nat × Nat)} (h : tb pc = some (e0 (.astore i))) (hp : pc + 2 = pc') (hl : lst1 loc i (.inr x) = some l') (k : Ev R mth cap sc ret tb pc' l' st S) : Ev R mth cap sc ret tb pc loc (.inr x :: st) S := by subst hp; exact Ev.mk ⟨_, h, x, st, l', rfl, hl, k⟩
theorem ev_iinc {i : Nat} {n : Int} {x y : Int32} (h : tb pc = some (e0 (.iinc i n))) (hp : pc + 3 = pc') (hl : loc[i]? = some (some (aI x))) (hy : x + Int32.ofInt n = y) (hs : lst1 loc i (aI y) = some l') (k : Ev R mth cap sc ret tb pc' l' st S) : Ev R mth cap sc ret tb pc loc st S := by subst hp; exact Ev.mk ⟨_, h, x, l', hl, (by subst hy; exact hs), k⟩
theorem ev_iconst {n : Int} {v : Int32} (h : tb pc = some (e0 (.iconst n))) (hp : pc + 1 = pc') (hv : Int32.ofInt n = v) (k : Ev R mth cap sc ret tb pc' loc (aI v :: st) S) : Ev R mth cap sc ret tb pc loc st S := by subst hp; exact Ev.mk ⟨_, h, (by subst hv; exact k)⟩
theorem ev_bipush {n : Int} {v : Int32} (h : tb pc = some (e0 (.bipush n))) (hp : pc + 2 = pc') (hv : (Int8.ofInt n).toInt32 = v) (k : Ev R mth cap sc ret tb pc' loc (aI v :: st) S) : Ev R mth cap sc ret tb pc loc st S := by subst hp; exact Ev.mk ⟨_, h, (by subst hv; exact k)⟩
theorem ev_sipush {n : Int} {v : Int32} (h : tb pc = some (e0 (.sipush n))) (hp : pc + 3 = pc') (hv : (Int16.ofInt n).toInt32 = v) (k : Ev R mth cap sc ret tb pc' loc (aI v :: st) S) : Ev R mth cap sc ret tb pc loc st S := by subst hp; exact Ev.mk ⟨_, h, (by subst hv; exact k)⟩
theorem ev_lconst {n : Fin 2} {v : Int64} (h : tb pc = some (e0 (.lconst n))) (hp : pc + 1 = pc') (hv : Int64.ofNat (n : Nat) = v) (k : Ev R mth cap sc ret tb pc' loc (aL v :: st) S) : Ev R mth cap sc ret tb pc loc st S := by subst hp; exact Ev.mk ⟨_, h, (by subst hv; exact k)⟩
theorem ev_null  (h : tb pc = some (e0 .aconst_null)) (hp : pc + 1 = pc')  (k : Ev R mth cap sc ret tb pc' loc (aN :: st) S) : Ev R mth cap sc ret tb pc loc st S := by subst hp; exact Ev.mk ⟨_, h, k⟩
theorem ev_ldc {n a b c : Nat} {z : Int} {tl : List Nat} {v : Int32} (h : tb pc = some (.ldc n, a, b, c, z, tl)) (hp : pc + 2 = pc') (hv : Int32.ofInt z = v) (k : Ev R mth cap sc ret tb pc' loc (aI v :: st) S) : Ev R mth cap sc ret tb pc loc st S := by subst hp; exact Ev.mk ⟨_, h, (by subst hv; exact k)⟩
theorem ev_ldc_w {n a b c : Nat} {z : Int} {tl : List Nat} {v : Int32} (h : tb pc = some (.ldc_w n, a, b, c, z, tl)) (hp : pc + 3 = pc') (hv : Int32.ofInt z = v) (k : Ev R mth cap sc ret tb pc' loc (aI v :: st) S) : Ev R mth cap sc ret tb pc loc st S := by subst hp; exact Ev.mk ⟨_, h, (by subst hv; exact k)⟩
theorem ev_ldc2_w {n a b c : Nat} {z : Int} {tl : List Nat} {v : Int64} (h : tb pc = some (.ldc2_w n, a, b, c, z, tl)) (hp : pc + 3 = pc') (hv : Int64.ofInt z = v) (k : Ev R mth cap sc ret tb pc' loc (aL v :: st) S) : Ev R mth cap sc ret tb pc loc st S := by subst hp; exact Ev.mk ⟨_, h, (by subst hv; exact k)⟩
theorem ev_iadd {x y : Int32} (h : tb pc = some (e0 .iadd)) (hp : pc + 1 = pc')  (k : Ev R mth cap sc ret tb pc' loc (aI (x + y) :: st) S) : Ev R mth cap sc ret tb pc loc (aI y :: aI x :: st) S := by subst hp; exact Ev.mk ⟨_, h, x, y, st, rfl, k⟩
theorem ev_isub {x y : Int32} (h : tb pc = some (e0 .isub)) (hp : pc + 1 = pc')  (k : Ev R mth cap sc ret tb pc' loc (aI (x - y) :: st) S) : Ev R mth cap sc ret tb pc loc (aI y :: aI x :: st) S := by subst hp; exact Ev.mk ⟨_, h, x, y, st, rfl, k⟩
theorem ev_imul {x y : Int32} (h : tb pc = some (e0 .imul)) (hp : pc + 1 = pc')  (k : Ev R mth cap sc ret tb pc' loc (aI (x * y) :: st) S) : Ev R mth cap sc ret tb pc loc (aI y :: aI x :: st) S := by subst hp; exact Ev.mk ⟨_, h, x, y, st, rfl, k⟩
theorem ev_iand {x y : Int32} (h : tb pc = some (e0 .iand)) (hp : pc + 1 = pc')  (k : Ev R mth cap sc ret tb pc' loc (aI (x &&& y) :: st) S) : Ev R mth cap sc ret tb pc loc (aI y :: aI x :: st) S := by subst hp; exact Ev.mk ⟨_, h, x, y, st, rfl, k⟩
theorem ev_ior {x y : Int32} (h : tb pc = some (e0 .ior)) (hp : pc + 1 = pc')  (k : Ev R mth cap sc ret tb pc' loc (aI (x ||| y) :: st) S) : Ev R mth cap sc ret tb pc loc (aI y :: aI x :: st) S := by subst hp; exact Ev.mk ⟨_, h, x, y, st, rfl, k⟩
theorem ev_ixor {x y : Int32} (h : tb pc = some (e0 .ixor)) (hp : pc + 1 = pc')  (k : Ev R mth cap sc ret tb pc' loc (aI (x ^^^ y) :: st) S) : Ev R mth cap sc ret tb pc loc (aI y :: aI x :: st) S := by subst hp; exact Ev.mk ⟨_, h, x, y, st, rfl, k⟩
theorem ev_ishl {x y : Int32} (h : tb pc = some (e0 .ishl)) (hp : pc + 1 = pc')  (k : Ev R mth cap sc ret tb pc' loc (aI (x <<< (y &&& 31)) :: st) S) : Ev R mth cap sc ret tb pc loc (aI y :: aI x :: st) S := by subst hp; exact Ev.mk ⟨_, h, x, y, st, rfl, k⟩
theorem ev_ishr {x y : Int32} (h : tb pc = some (e0 .ishr)) (hp : pc + 1 = pc')  (k : Ev R mth cap sc ret tb pc' loc (aI (x >>> (y &&& 31)) :: st) S) : Ev R mth cap sc ret tb pc loc (aI y :: aI x :: st) S := by subst hp; exact Ev.mk ⟨_, h, x, y, st, rfl, k⟩
theorem ev_iushr {x y : Int32} (h : tb pc = some (e0 .iushr)) (hp : pc + 1 = pc')  (k : Ev R mth cap sc ret tb pc' loc (aI ((x.toUInt32 >>> (y.toUInt32 &&& Int32.toUInt32 31)).toInt32) :: st) S) : Ev R mth cap sc ret tb pc loc (aI y :: aI x :: st) S := by subst hp; exact Ev.mk ⟨_, h, x, y, st, rfl, k⟩
theorem ev_ladd {x y : Int64} (h : tb pc = some (e0 .ladd)) (hp : pc + 1 = pc')  (k : Ev R mth cap sc ret tb pc' loc (aL (x + y) :: st) S) : Ev R mth cap sc ret tb pc loc (aL y :: aL x :: st) S := by subst hp; exact Ev.mk ⟨_, h, x, y, st, rfl, k⟩
theorem ev_lsub {x y : Int64} (h : tb pc = some (e0 .lsub)) (hp : pc + 1 = pc')  (k : Ev R mth cap sc ret tb pc' loc (aL (x - y) :: st) S) : Ev R mth cap sc ret tb pc loc (aL y :: aL x :: st) S := by subst hp; exact Ev.mk ⟨_, h, x, y, st, rfl, k⟩
theorem ev_lmul {x y : Int64} (h : tb pc = some (e0 .lmul)) (hp : pc + 1 = pc')  (k : Ev R mth cap sc ret tb pc' loc (aL (x * y) :: st) S) : Ev R mth cap sc ret tb pc loc (aL y :: aL x :: st) S := by subst hp; exact Ev.mk ⟨_, h, x, y, st, rfl, k⟩
theorem ev_land {x y : Int64} (h : tb pc = some (e0 .land)) (hp : pc + 1 = pc')  (k : Ev R mth cap sc ret tb pc' loc (aL (x &&& y) :: st) S) : Ev R mth cap sc ret tb pc loc (aL y :: aL x :: st) S := by subst hp; exact Ev.mk ⟨_, h, x, y, st, rfl, k⟩
theorem ev_lor {x y : Int64} (h : tb pc = some (e0 .lor)) (hp : pc + 1 = pc')  (k : Ev R mth cap sc ret tb pc' loc (aL (x ||| y) :: st) S) : Ev R mth cap sc ret tb pc loc (aL y :: aL x :: st) S := by subst hp; exact Ev.mk ⟨_, h, x, y, st, rfl, k⟩
theorem ev_lxor {x y : Int64} (h : tb pc = some (e0 .lxor)) (hp : pc + 1 = pc')  (k : Ev R mth cap sc ret tb pc' loc (aL (x ^^^ y) :: st) S) : Ev R mth cap sc ret tb pc loc (aL y :: aL x :: st) S := by subst hp; exact Ev.mk ⟨_, h, x, y, st, rfl, k⟩
theorem ev_lcmp {x y : Int64} (h : tb pc = some (e0 .lcmp)) (hp : pc + 1 = pc')  (k : Ev R mth cap sc ret tb pc' loc (aI (lg_cmp x y) :: st) S) : Ev R mth cap sc ret tb pc loc (aL y :: aL x :: st) S := by subst hp; exact Ev.mk ⟨_, h, x, y, st, rfl, k⟩
theorem ev_lshl {x : Int64} {y : Int32} (h : tb pc = some (e0 .lshl)) (hp : pc + 1 = pc')  (k : Ev R mth cap sc ret tb pc' loc (aL (x <<< (y.toInt64 &&& 63)) :: st) S) : Ev R mth cap sc ret tb pc loc (aI y :: aL x :: st) S := by subst hp; exact Ev.mk ⟨_, h, x, y, st, rfl, k⟩
theorem ev_lshr {x : Int64} {y : Int32} (h : tb pc = some (e0 .lshr)) (hp : pc + 1 = pc')  (k : Ev R mth cap sc ret tb pc' loc (aL (x >>> (y.toInt64 &&& 63)) :: st) S) : Ev R mth cap sc ret tb pc loc (aI y :: aL x :: st) S := by subst hp; exact Ev.mk ⟨_, h, x, y, st, rfl, k⟩
theorem ev_lushr {x : Int64} {y : Int32} (h : tb pc = some (e0 .lushr)) (hp : pc + 1 = pc')  (k : Ev R mth cap sc ret tb pc' loc (aL ((x.toUInt64 >>> (y.toInt64.toUInt64 &&& Int64.toUInt64 63)).toInt64) :: st) S) : Ev R mth cap sc ret tb pc loc (aI y :: aL x :: st) S := by subst hp; exact Ev.mk ⟨_, h, x, y, st, rfl, k⟩
theorem ev_idiv {x y : Int32} (h : tb pc = some (e0 .idiv)) (hp : pc + 1 = pc') (hn : ¬ y = 0) (k : Ev R mth cap sc ret tb pc' loc (aI (x / y) :: st) S) : Ev R mth cap sc ret tb pc loc (aI y :: aI x :: st) S := by subst hp; exact Ev.mk ⟨_, h, x, y, st, rfl, hn, k⟩
theorem ev_irem {x y : Int32} (h : tb pc = some (e0 .irem)) (hp : pc + 1 = pc') (hn : ¬ y = 0) (k : Ev R mth cap sc ret tb pc' loc (aI (x - x / y * y) :: st) S) : Ev R mth cap sc ret tb pc loc (aI y :: aI x :: st) S := by subst hp; exact Ev.mk ⟨_, h, x, y, st, rfl, hn, k⟩
theorem ev_ldiv {x y : Int64} (h : tb pc = some (e0 .ldiv)) (hp : pc + 1 = pc') (hn : ¬ y = 0) (k : Ev R mth cap sc ret tb pc' loc (aL (x / y) :: st) S) : Ev R mth cap sc ret tb pc loc (aL y :: aL x :: st) S := by subst hp; exact Ev.mk ⟨_, h, x, y, st, rfl, hn, k⟩
theorem ev_i2l {x : Int32} (h : tb pc = some (e0 .i2l)) (hp : pc + 1 = pc')  (k : Ev R mth cap sc ret tb pc' loc (aL x.toInt64 :: st) S) : Ev R mth cap sc ret tb pc loc (aI x :: st) S := by subst hp; exact Ev.mk ⟨_, h, x, st, rfl, k⟩
theorem ev_l2i {x : Int64} (h : tb pc = some (e0 .l2i)) (hp : pc + 1 = pc')  (k : Ev R mth cap sc ret tb pc' loc (aI x.toInt32 :: st) S) : Ev R mth cap sc ret tb pc loc (aL x :: st) S := by subst hp; exact Ev.mk ⟨_, h, x, st, rfl, k⟩
theorem ev_dup {a : AV} (h : tb pc = some (e0 .dup)) (hp : pc + 1 = pc') (ha : aCat a = 1) (k : Ev R mth cap sc ret tb pc' loc (a :: a :: st) S) : Ev R mth cap sc ret tb pc loc (a :: st) S := by subst hp; exact Ev.mk ⟨_, h, a, st, rfl, ha, k⟩
theorem ev_dup2 {a b : AV} (h : tb pc = some (e0 .dup2)) (hp : pc + 1 = pc') (ha : aCat a = 1) (hb : aCat b = 1) (k : Ev R mth cap sc ret tb pc' loc (a :: b :: a :: b :: st) S) : Ev R mth cap sc ret tb pc loc (a :: b :: st) S := by subst hp; exact Ev.mk ⟨_, h, a, b, st, rfl, ha, hb, k⟩
theorem ev_pop {a : AV} (h : tb pc = some (e0 .pop)) (hp : pc + 1 = pc') (ha : aCat a = 1) (k : Ev R mth cap sc ret tb pc' loc st S) : Ev R mth cap sc ret tb pc loc (a :: st) S := by subst hp; exact Ev.mk ⟨_, h, a, st, rfl, ha, k⟩
theorem ev_goto {off : Int} {a b : Nat} {z : Int} {tl : List Nat} (h : tb pc = some (.goto off, pc', a, b, z, tl)) (k : Ev R mth cap sc ret tb pc' loc st S) : Ev R mth cap sc ret tb pc loc st S := Ev.mk ⟨_, h, k⟩
theorem ev_icmp_eq {off : Int} {t a b : Nat} {z : Int} {tl : List Nat} {x y : Int32} (h : tb pc = some (.if_icmp .eq off, t, a, b, z, tl)) (hp : pc + 3 = pc') (kt : x = y → Ev R mth cap sc ret tb t loc st S) (kf : ¬ (x = y) → Ev R mth cap sc ret tb pc' loc st S) : Ev R mth cap sc ret tb pc loc (aI y :: aI x :: st) S := by subst hp; exact Ev.mk ⟨_, h, x, y, st, rfl, kt, kf⟩
theorem ev_if_eq {off : Int} {t a b : Nat} {z : Int} {tl : List Nat} {x : Int32} (h : tb pc = some (.ifCond .eq off, t, a, b, z, tl)) (hp : pc + 3 = pc') (kt : x = 0 → Ev R mth cap sc ret tb t loc st S) (kf : ¬ (x = 0) → Ev R mth cap sc ret tb pc' loc st S) : Ev R mth cap sc ret tb pc loc (aI x :: st) S := by subst hp; exact Ev.mk ⟨_, h, x, st, rfl, kt, kf⟩
theorem ev_icmp_ne {off : Int} {t a b : Nat} {z : Int} {tl : List Nat} {x y : Int32} (h : tb pc = some (.if_icmp .ne off, t, a, b, z, tl)) (hp : pc + 3 = pc') (kt : x ≠ y → Ev R mth cap sc ret tb t loc st S) (kf : ¬ (x ≠ y) → Ev R mth cap sc ret tb pc' loc st S) : Ev R mth cap sc ret tb pc loc (aI y :: aI x :: st) S := by subst hp; exact Ev.mk ⟨_, h, x, y, st, rfl, kt, kf⟩
theorem ev_if_ne {off : Int} {t a b : Nat} {z : Int} {tl : List Nat} {x : Int32} (h : tb pc = some (.ifCond .ne off, t, a, b, z, tl)) (hp : pc + 3 = pc') (kt : x ≠ 0 → Ev R mth cap sc ret tb t loc st S) (kf : ¬ (x ≠ 0) → Ev R mth cap sc ret tb pc' loc st S) : Ev R mth cap sc ret tb pc loc (aI x :: st) S := by subst hp; exact Ev.mk ⟨_, h, x, st, rfl, kt, kf⟩
theorem ev_icmp_lt {off : Int} {t a b : Nat} {z : Int} {tl : List Nat} {x y : Int32} (h : tb pc = some (.if_icmp .lt off, t, a, b, z, tl)) (hp : pc + 3 = pc') (kt : x < y → Ev R mth cap sc ret tb t loc st S) (kf : ¬ (x < y) → Ev R mth cap sc ret tb pc' loc st S) : Ev R mth cap sc ret tb pc loc (aI y :: aI x :: st) S := by subst hp; exact Ev.mk ⟨_, h, x, y, st, rfl, kt, kf⟩
theorem ev_if_lt {off : Int} {t a b : Nat} {z : Int} {tl : List Nat} {x : Int32} (h : tb pc = some (.ifCond .lt off, t, a, b, z, tl)) (hp : pc + 3 = pc') (kt : x < 0 → Ev R mth cap sc ret tb t loc st S) (kf : ¬ (x < 0) → Ev R mth cap sc ret tb pc' loc st S) : Ev R mth cap sc ret tb pc loc (aI x :: st) S := by subst hp; exact Ev.mk ⟨_, h, x, st, rfl, kt, kf⟩
theorem ev_icmp_ge {off : Int} {t a b : Nat} {z : Int} {tl : List Nat} {x y : Int32} (h : tb pc = some (.if_icmp .ge off, t, a, b, z, tl)) (hp : pc + 3 = pc') (kt : y ≤ x → Ev R mth cap sc ret tb t loc st S) (kf : ¬ (y ≤ x) → Ev R mth cap sc ret tb pc' loc st S) : Ev R mth cap sc ret tb pc loc (aI y :: aI x :: st) S := by subst hp; exact Ev.mk ⟨_, h, x, y, st, rfl, kt, kf⟩
theorem ev_if_ge {off : Int} {t a b : Nat} {z : Int} {tl : List Nat} {x : Int32} (h : tb pc = some (.ifCond .ge off, t, a, b, z, tl)) (hp : pc + 3 = pc') (kt : 0 ≤ x → Ev R mth cap sc ret tb t loc st S) (kf : ¬ (0 ≤ x) → Ev R mth cap sc ret tb pc' loc st S) : Ev R mth cap sc ret tb pc loc (aI x :: st) S := by subst hp; exact Ev.mk ⟨_, h, x, st, rfl, kt, kf⟩
theorem ev_icmp_gt {off : Int} {t a b : Nat} {z : Int} {tl : List Nat} {x y : Int32} (h : tb pc = some (.if_icmp .gt off, t, a, b, z, tl)) (hp : pc + 3 = pc') (kt : y < x → Ev R mth cap sc ret tb t loc st S) (kf : ¬ (y < x) → Ev R mth cap sc ret tb pc' loc st S) : Ev R mth cap sc ret tb pc loc (aI y :: aI x :: st) S := by subst hp; exact Ev.mk ⟨_, h, x, y, st, rfl, kt, kf⟩
theorem ev_if_gt {off : Int} {t a b : Nat} {z : Int} {tl : List Nat} {x : Int32} (h : tb pc = some (.ifCond .gt off, t, a, b, z, tl)) (hp : pc + 3 = pc') (kt : 0 < x → Ev R mth cap sc ret tb t loc st S) (kf : ¬ (0 < x) → Ev R mth cap sc ret tb pc' loc st S) : Ev R mth cap sc ret tb pc loc (aI x :: st) S := by subst hp; exact Ev.mk ⟨_, h, x, st, rfl, kt, kf⟩
theorem ev_icmp_le {off : Int} {t a b : Nat} {z : Int} {tl : List Nat} {x y : Int32} (h : tb pc = some (.if_icmp .le off, t, a, b, z, tl)) (hp : pc + 3 = pc') (kt : x ≤ y → Ev R mth cap sc ret tb t loc st S) (kf : ¬ (x ≤ y) → Ev R mth cap sc ret tb pc' loc st S) : Ev R mth cap sc ret tb pc loc (aI y :: aI x :: st) S := by subst hp; exact Ev.mk ⟨_, h, x, y, st, rfl, kt, kf⟩
theorem ev_if_le {off : Int} {t a b : Nat} {z : Int} {tl : List Nat} {x : Int32} (h : tb pc = some (.ifCond .le off, t, a, b, z, tl)) (hp : pc + 3 = pc') (kt : x ≤ 0 → Ev R mth cap sc ret tb t loc st S) (kf : ¬ (x ≤ 0) → Ev R mth cap sc ret tb pc' loc st S) : Ev R mth cap sc ret tb pc loc (aI x :: st) S := by subst hp; exact Ev.mk ⟨_, h, x, st, rfl, kt, kf⟩
theorem bI_t : bI true = 1 := rfl
theorem bI_f : bI false = 0 := rfl
theorem ev_ifB_eq {off : Int} {t a b : Nat} {z : Int} {tl : List Nat} {x : Bool} (h : tb pc = some (.ifCond .eq off, t, a, b, z, tl)) (hp : pc + 3 = pc') (kt : ¬ x = true → Ev R mth cap sc ret tb t loc st S) (kf : x = true → Ev R mth cap sc ret tb pc' loc st S) : Ev R mth cap sc ret tb pc loc (aI (bI x) :: st) S := ev_if_eq h hp (fun q => kt (fun e => by subst e; exact absurd q (by decide))) (fun q => kf (by cases x with | true => rfl | false => exact absurd rfl q))
theorem ev_ifB_ne {off : Int} {t a b : Nat} {z : Int} {tl : List Nat} {x : Bool} (h : tb pc = some (.ifCond .ne off, t, a, b, z, tl)) (hp : pc + 3 = pc') (kt : x = true → Ev R mth cap sc ret tb t loc st S) (kf : ¬ x = true → Ev R mth cap sc ret tb pc' loc st S) : Ev R mth cap sc ret tb pc loc (aI (bI x) :: st) S := ev_if_ne h hp (fun q => kt (by cases x with | true => rfl | false => exact absurd rfl q)) (fun q => kf (fun e => by subst e; exact q (by decide)))
theorem ev_ifnull {off : Int} {t a b : Nat} {z : Int} {tl : List Nat} {x : Option (Nat × Nat)} (h : tb pc = some (.ifnull off, t, a, b, z, tl)) (hp : pc + 3 = pc') (kt : x = none → Ev R mth cap sc ret tb t loc st S) (kf : ∀ q, x = some q → Ev R mth cap sc ret tb pc' loc st S) : Ev R mth cap sc ret tb pc loc (.inr x :: st) S := by subst hp; exact Ev.mk ⟨_, h, x, st, rfl, kt, kf⟩
theorem ev_ifnonnull {off : Int} {t a b : Nat} {z : Int} {tl : List Nat} {x : Option (Nat × Nat)} (h : tb pc = some (.ifnonnull off, t, a, b, z, tl)) (hp : pc + 3 = pc') (kt : x = none → Ev R mth cap sc ret tb pc' loc st S) (kf : ∀ q, x = some q → Ev R mth cap sc ret tb t loc st S) : Ev R mth cap sc ret tb pc loc (.inr x :: st) S := by subst hp; exact Ev.mk ⟨_, h, x, st, rfl, kt, kf⟩
theorem ev_ifnull_n {off : Int} {t a b : Nat} {z : Int} {tl : List Nat} (h : tb pc = some (.ifnull off, t, a, b, z, tl)) (k : Ev R mth cap sc ret tb t loc st S) : Ev R mth cap sc ret tb pc loc (.inr none :: st) S := Ev.mk ⟨_, h, none, st, rfl, (fun _ => k), fun q e => (by cases e)⟩
theorem ev_ifnull_s {off : Int} {t a b : Nat} {z : Int} {tl : List Nat} {q : Nat × Nat} (h : tb pc = some (.ifnull off, t, a, b, z, tl)) (hp : pc + 3 = pc') (k : Ev R mth cap sc ret tb pc' loc st S) : Ev R mth cap sc ret tb pc loc (.inr (some q) :: st) S := by subst hp; exact Ev.mk ⟨_, h, some q, st, rfl, (fun e => by cases e), fun _ _ => k⟩
theorem ev_ifnonnull_n {off : Int} {t a b : Nat} {z : Int} {tl : List Nat} (h : tb pc = some (.ifnonnull off, t, a, b, z, tl)) (hp : pc + 3 = pc') (k : Ev R mth cap sc ret tb pc' loc st S) : Ev R mth cap sc ret tb pc loc (.inr none :: st) S := by subst hp; exact Ev.mk ⟨_, h, none, st, rfl, (fun _ => k), fun q e => (by cases e)⟩
theorem ev_ifnonnull_s {off : Int} {t a b : Nat} {z : Int} {tl : List Nat} {q : Nat × Nat} (h : tb pc = some (.ifnonnull off, t, a, b, z, tl)) (k : Ev R mth cap sc ret tb t loc st S) : Ev R mth cap sc ret tb pc loc (.inr (some q) :: st) S := Ev.mk ⟨_, h, some q, st, rfl, (fun e => by cases e), fun _ _ => k⟩
theorem ev_tsw {d lo hi : Int} {offs : Array Int} {t a b : Nat} {z : Int} {tl : List Nat} {x : Int32} (h : tb pc = some (.tableswitch d lo hi offs, t, a, b, z, tl)) (kd : (x.toInt < lo ∨ hi < x.toInt) → Ev R mth cap sc ret tb t loc st S) (kc : ∀ (n u : Nat), tl[n]? = some u → x.toInt = lo + (n : Int) → Ev R mth cap sc ret tb u loc st S) : Ev R mth cap sc ret tb pc loc (aI x :: st) S := Ev.mk ⟨_, h, x, st, rfl, kd, kc⟩
theorem ev_lsw {d : Int} {ps : Array (Int × Int)} {t a b : Nat} {z : Int} {tl : List Nat} {x : Int32} (h : tb pc = some (.lookupswitch d ps, t, a, b, z, tl)) (kd : (∀ q : Int × Int, q ∈ ps.toList → q.1 ≠ x.toInt) → Ev R mth cap sc ret tb t loc st S) (kc : ∀ (n u : Nat) (q : Int × Int), tl[n]? = some u → ps.toList[n]? = some q → x.toInt = q.1 → Ev R mth cap sc ret tb u loc st S) : Ev R mth cap sc ret tb pc loc (aI x :: st) S := Ev.mk ⟨_, h, x, st, rfl, kd, kc⟩
section ST
variable {L : List (Nat × Nat)} {g : Nat → Nat → Nat → Int32} {w : Nat → Nat → Nat → Int64} {q : Nat → Nat → Nat → Option Nat}
theorem ev_getI {n F y : Nat} {z : Int} {tl : List Nat} {i : Nat} (h : tb pc = some (.getfield n, F, y, 0, z, tl)) (hp : pc + 3 = pc') (k : Ev R mth cap sc ret tb pc' loc (aI (g F i y) :: st) (L, g, w, q)) : Ev R mth cap sc ret tb pc loc (aR F i :: st) (L, g, w, q) := by subst hp; exact Ev.mk ⟨_, h, i, st, rfl, k⟩
theorem ev_getL {n F y : Nat} {z : Int} {tl : List Nat} {i : Nat} (h : tb pc = some (.getfield n, F, y, 1, z, tl)) (hp : pc + 3 = pc') (k : Ev R mth cap sc ret tb pc' loc (aL (w F i y) :: st) (L, g, w, q)) : Ev R mth cap sc ret tb pc loc (aR F i :: st) (L, g, w, q) := by subst hp; exact Ev.mk ⟨_, h, i, st, rfl, k⟩
theorem ev_getQ {n F y F2 u : Nat} {z : Int} {tl : List Nat} {i : Nat} (h : tb pc = some (.getfield n, F, y, F2 + 2, z, tl)) (hp : pc + 3 = pc') (hq : q F i y = some u) (k : Ev R mth cap sc ret tb pc' loc (aR F2 u :: st) (L, g, w, q)) : Ev R mth cap sc ret tb pc loc (aR F i :: st) (L, g, w, q) := by subst hp; refine Ev.mk ⟨_, h, i, st, rfl, ?_⟩; show Ev R mth cap sc ret tb _ _ (.inr ((q F i y).map (fun p => (F2, p))) :: st) _; rw [hq]; exact k
theorem ev_putI {n F y : Nat} {z : Int} {tl : List Nat} {i : Nat} {x : Int32} (h : tb pc = some (.putfield n, F, y, 0, z, tl)) (hp : pc + 3 = pc') (k : Ev R mth cap sc ret tb pc' loc st (L, gI g F i y x, w, q)) : Ev R mth cap sc ret tb pc loc (aI x :: aR F i :: st) (L, g, w, q) := by subst hp; exact Ev.mk ⟨_, h, _, i, st, _, rfl, rfl, k⟩
theorem ev_putL {n F y : Nat} {z : Int} {tl : List Nat} {i : Nat} {x : Int64} (h : tb pc = some (.putfield n, F, y, 1, z, tl)) (hp : pc + 3 = pc') (k : Ev R mth cap sc ret tb pc' loc st (L, g, wL w F i y x, q)) : Ev R mth cap sc ret tb pc loc (aL x :: aR F i :: st) (L, g, w, q) := by subst hp; exact Ev.mk ⟨_, h, _, i, st, _, rfl, rfl, k⟩
theorem ev_iald {F i : Nat} {n : Int32} (h : tb pc = some (e0 .iaload)) (hp : pc + 1 = pc') (hF : F / 1000 = 1) (hin : vp_in n (F % 1000)) (k : Ev R mth cap sc ret tb pc' loc (aI (g F i n.toNatClampNeg) :: st) (L, g, w, q)) : Ev R mth cap sc ret tb pc loc (aI n :: aR F i :: st) (L, g, w, q) := by subst hp; exact Ev.mk ⟨_, h, Or.inl ⟨n, F, i, st, rfl, hF, hin, k⟩⟩
theorem ev_sald {n : Int32} (h : tb pc = some (e0 .iaload)) (hp : pc + 1 = pc') (hin : vp_in n sc.1) (k : Ev R mth cap sc ret tb pc' loc (aI (sc.2 n.toNatClampNeg) :: st) S) : Ev R mth cap sc ret tb pc loc (aI n :: aR 900 0 :: st) S := by subst hp; exact Ev.mk ⟨_, h, Or.inr ⟨n, st, rfl, hin, k⟩⟩
theorem ev_lald {F i : Nat} {n : Int32} (h : tb pc = some (e0 .laload)) (hp : pc + 1 = pc') (hF : F / 1000 = 2) (hin : vp_in n (F % 1000)) (k : Ev R mth cap sc ret tb pc' loc (aL (w F i n.toNatClampNeg) :: st) (L, g, w, q)) : Ev R mth cap sc ret tb pc loc (aI n :: aR F i :: st) (L, g, w, q) := by subst hp; exact Ev.mk ⟨_, h, n, F, i, st, rfl, hF, hin, k⟩
theorem ev_aald {F i u F2 : Nat} {n : Int32} (h : tb pc = some (e0 .aaload)) (hp : pc + 1 = pc') (hF : 3 ≤ F / 1000) (hF2 : arT F = F2) (hin : vp_in n (F % 1000)) (hq : q F i n.toNatClampNeg = some u) (k : Ev R mth cap sc ret tb pc' loc (aR F2 u :: st) (L, g, w, q)) : Ev R mth cap sc ret tb pc loc (aI n :: aR F i :: st) (L, g, w, q) := by subst hp; subst hF2; refine Ev.mk ⟨_, h, n, F, i, st, rfl, hF, hin, ?_⟩; show Ev R mth cap sc ret tb _ _ (.inr ((q F i n.toNatClampNeg).map (fun p => (arT F, p))) :: st) _; rw [hq]; exact k
theorem ev_iast {F i : Nat} {n x : Int32} (h : tb pc = some (e0 .iastore)) (hp : pc + 1 = pc') (hF : F / 1000 = 1) (hin : vp_in n (F % 1000)) (k : Ev R mth cap sc ret tb pc' loc st (L, gI g F i n.toNatClampNeg x, w, q)) : Ev R mth cap sc ret tb pc loc (aI x :: aI n :: aR F i :: st) (L, g, w, q) := by subst hp; exact Ev.mk ⟨_, h, x, n, F, i, st, rfl, hF, hin, k⟩
theorem ev_last {F i : Nat} {n : Int32} {x : Int64} (h : tb pc = some (e0 .lastore)) (hp : pc + 1 = pc') (hF : F / 1000 = 2) (hin : vp_in n (F % 1000)) (k : Ev R mth cap sc ret tb pc' loc st (L, g, wL w F i n.toNatClampNeg x, q)) : Ev R mth cap sc ret tb pc loc (aL x :: aI n :: aR F i :: st) (L, g, w, q) := by subst hp; exact Ev.mk ⟨_, h, x, n, F, i, st, rfl, hF, hin, k⟩
theorem ev_alen {F i : Nat} {v : Int32} (h : tb pc = some (e0 .arraylength)) (hp : pc + 1 = pc') (hF : 1000 ≤ F) (hv : Int32.ofNat (F % 1000) = v) (k : Ev R mth cap sc ret tb pc' loc (aI v :: st) S) : Ev R mth cap sc ret tb pc loc (aR F i :: st) S := by subst hp; subst hv; exact Ev.mk ⟨_, h, Or.inl ⟨F, i, st, rfl, hF, k⟩⟩
theorem ev_slen (h : tb pc = some (e0 .arraylength)) (hp : pc + 1 = pc') (k : Ev R mth cap sc ret tb pc' loc (aI (Int32.ofNat sc.1) :: st) S) : Ev R mth cap sc ret tb pc loc (aR 900 0 :: st) S := by subst hp; exact Ev.mk ⟨_, h, Or.inr ⟨st, rfl, k⟩⟩
theorem ev_copy {n F F2 i i2 x y : Nat} {z : Int} {tl : List Nat} {s d c : Int32} (h : tb pc = some (.invokestatic n, x, y, 7, z, tl)) (hp : pc + 3 = pc') (hF : F / 1000 = 1) (hF2 : F2 / 1000 = 1) (hc : ¬ s < 0 ∧ ¬ d < 0 ∧ ¬ c < 0 ∧ s.toNatClampNeg + c.toNatClampNeg ≤ F % 1000 ∧ d.toNatClampNeg + c.toNatClampNeg ≤ F2 % 1000 ∧ aCats st ≤ 8) (k : Ev R mth cap sc ret tb pc' loc st (L, gRow g F2 i2 (va_cpy (g F i) (g F2 i2) s.toNatClampNeg d.toNatClampNeg c.toNatClampNeg), w, q)) : Ev R mth cap sc ret tb pc loc (aI c :: aI d :: aR F2 i2 :: aI s :: aR F i :: st) (L, g, w, q) := by subst hp; exact Ev.mk ⟨_, h, c, d, F2, i2, s, F, i, st, rfl, hF, hF2, hc.1, hc.2.1, hc.2.2.1, hc.2.2.2.1, hc.2.2.2.2.1, hc.2.2.2.2.2, k⟩
theorem ev_max {n x y : Nat} {z : Int} {tl : List Nat} {a b : Int32} (h : tb pc = some (.invokestatic n, x, y, 8, z, tl)) (hp : pc + 3 = pc') (hc : aCats st ≤ 8 ∧ S.1.length ≤ cap.1 ∧ slz S.1 ≤ cap.2) (k : Ev R mth cap sc ret tb pc' loc (aI (if a < b then b else a) :: st) S) : Ev R mth cap sc ret tb pc loc (aI b :: aI a :: st) S := by subst hp; exact Ev.mk ⟨_, h, a, b, st, rfl, hc.1, hc.2.1, hc.2.2, k⟩
end ST
theorem ev_ireturn {v : Int32} (h : tb pc = some (e0 .ireturn)) (k : ret (some (aI v)) S) : Ev R mth cap sc ret tb pc loc [aI v] S := Ev.mk ⟨_, h, v, rfl, k⟩
theorem ev_lreturn {v : Int64} (h : tb pc = some (e0 .lreturn)) (k : ret (some (aL v)) S) : Ev R mth cap sc ret tb pc loc [aL v] S := Ev.mk ⟨_, h, v, rfl, k⟩
theorem ev_areturn {v : Option (Nat × Nat)} (h : tb pc = some (e0 .areturn)) (k : ret (some (.inr v)) S) : Ev R mth cap sc ret tb pc loc [.inr v] S := Ev.mk ⟨_, h, v, rfl, k⟩
theorem ev_return (h : tb pc = some (e0 .return_)) (k : ret none S) : Ev R mth cap sc ret tb pc loc [] S := Ev.mk ⟨_, h, rfl, k⟩
theorem ev_ck {x n : Nat} {mi : MI} {v : Option AV} {S' : DS} {as : List AV} (hm : mth x = some mi) (hn : n ≤ st.length) (has : (st.take n).reverse = as) (hc : aCats (st.drop n) ≤ 8 ∧ noScr (st.take n) = true) (hcap : S.1.length + mi.2.2.2.2.2.1 ≤ cap.1 ∧ slz S.1 + mi.2.2.2.2.2.2.1 ≤ cap.2) (hd : Does R x as S v S') {k : KC} (hk : k (pc + 3) loc (v.toList ++ st.drop n) S') : callK R mth cap k x n pc loc st S := by subst has; exact ⟨mi, hm, hn, hc.1, hc.2, hcap.1, hcap.2, fun v2 S2 => v2 = v ∧ S2 = S', hd _ ⟨rfl, rfl⟩, fun v2 S2 hh => by rw [hh.1, hh.2]; exact hk⟩
theorem ev_S0V {n x : Nat} {wk : Nat} {z : Int} {tl : List Nat} {mi : MI} {S' : DS}   (h : tb pc = some (.invokestatic n, x, 0, wk, z, tl)) (hw : wk < 2) (hp : pc + 3 = pc') (hm : mth x = some mi) (hc : aCats st ≤ 8 ∧ noScr [] = true) (hcap : S.1.length + mi.2.2.2.2.2.1 ≤ cap.1 ∧ slz S.1 + mi.2.2.2.2.2.2.1 ≤ cap.2) (hd : Does R x [] S none S') (k : Ev R mth cap sc ret tb pc' loc st S') : Ev R mth cap sc ret tb pc loc (st) S := by subst hp; refine Ev.mk ⟨_, h, ?_⟩; show (if wk = 7 then _ else if wk = 8 then _ else _); rw [if_neg (by omega), if_neg (by omega)]; exact ev_ck (k := Ev R mth cap sc ret tb) (st := (st)) (n := 0) hm (Nat.le_add_left _ _) rfl hc hcap hd k
theorem ev_S0I {n x : Nat} {wk : Nat} {z : Int} {tl : List Nat} {mi : MI} {S' : DS}  {v : Int32} (h : tb pc = some (.invokestatic n, x, 0, wk, z, tl)) (hw : wk < 2) (hp : pc + 3 = pc') (hm : mth x = some mi) (hc : aCats st ≤ 8 ∧ noScr [] = true) (hcap : S.1.length + mi.2.2.2.2.2.1 ≤ cap.1 ∧ slz S.1 + mi.2.2.2.2.2.2.1 ≤ cap.2) (hd : Does R x [] S (some (aI v)) S') (k : Ev R mth cap sc ret tb pc' loc (aI v :: st) S') : Ev R mth cap sc ret tb pc loc (st) S := by subst hp; refine Ev.mk ⟨_, h, ?_⟩; show (if wk = 7 then _ else if wk = 8 then _ else _); rw [if_neg (by omega), if_neg (by omega)]; exact ev_ck (k := Ev R mth cap sc ret tb) (st := (st)) (n := 0) hm (Nat.le_add_left _ _) rfl hc hcap hd k
theorem ev_S0L {n x : Nat} {wk : Nat} {z : Int} {tl : List Nat} {mi : MI} {S' : DS}  {v : Int64} (h : tb pc = some (.invokestatic n, x, 0, wk, z, tl)) (hw : wk < 2) (hp : pc + 3 = pc') (hm : mth x = some mi) (hc : aCats st ≤ 8 ∧ noScr [] = true) (hcap : S.1.length + mi.2.2.2.2.2.1 ≤ cap.1 ∧ slz S.1 + mi.2.2.2.2.2.2.1 ≤ cap.2) (hd : Does R x [] S (some (aL v)) S') (k : Ev R mth cap sc ret tb pc' loc (aL v :: st) S') : Ev R mth cap sc ret tb pc loc (st) S := by subst hp; refine Ev.mk ⟨_, h, ?_⟩; show (if wk = 7 then _ else if wk = 8 then _ else _); rw [if_neg (by omega), if_neg (by omega)]; exact ev_ck (k := Ev R mth cap sc ret tb) (st := (st)) (n := 0) hm (Nat.le_add_left _ _) rfl hc hcap hd k
theorem ev_S0R {n x : Nat} {wk : Nat} {z : Int} {tl : List Nat} {mi : MI} {S' : DS}  {v : Option (Nat × Nat)} (h : tb pc = some (.invokestatic n, x, 0, wk, z, tl)) (hw : wk < 2) (hp : pc + 3 = pc') (hm : mth x = some mi) (hc : aCats st ≤ 8 ∧ noScr [] = true) (hcap : S.1.length + mi.2.2.2.2.2.1 ≤ cap.1 ∧ slz S.1 + mi.2.2.2.2.2.2.1 ≤ cap.2) (hd : Does R x [] S (some (.inr v)) S') (k : Ev R mth cap sc ret tb pc' loc (.inr v :: st) S') : Ev R mth cap sc ret tb pc loc (st) S := by subst hp; refine Ev.mk ⟨_, h, ?_⟩; show (if wk = 7 then _ else if wk = 8 then _ else _); rw [if_neg (by omega), if_neg (by omega)]; exact ev_ck (k := Ev R mth cap sc ret tb) (st := (st)) (n := 0) hm (Nat.le_add_left _ _) rfl hc hcap hd k
theorem ev_S1V {n x : Nat} {wk : Nat} {z : Int} {tl : List Nat} {mi : MI} {S' : DS} {a1 : AV}  (h : tb pc = some (.invokestatic n, x, 1, wk, z, tl)) (hw : wk < 2) (hp : pc + 3 = pc') (hm : mth x = some mi) (hc : aCats st ≤ 8 ∧ noScr [a1] = true) (hcap : S.1.length + mi.2.2.2.2.2.1 ≤ cap.1 ∧ slz S.1 + mi.2.2.2.2.2.2.1 ≤ cap.2) (hd : Does R x [a1] S none S') (k : Ev R mth cap sc ret tb pc' loc st S') : Ev R mth cap sc ret tb pc loc (a1 :: st) S := by subst hp; refine Ev.mk ⟨_, h, ?_⟩; show (if wk = 7 then _ else if wk = 8 then _ else _); rw [if_neg (by omega), if_neg (by omega)]; exact ev_ck (k := Ev R mth cap sc ret tb) (st := (a1 :: st)) (n := 1) hm (Nat.le_add_left _ _) rfl hc hcap hd k
theorem ev_V1V {n x F i : Nat} {wk : Nat} {z : Int} {tl : List Nat} {mi : MI} {S' : DS}   (h : tb pc = some (.invokevirtual n, x, 0, wk, z, tl)) (hw : F = wk / 10) (hp : pc + 3 = pc') (hm : mth x = some mi) (hc : aCats st ≤ 8 ∧ noScr [(aR F i)] = true) (hcap : S.1.length + mi.2.2.2.2.2.1 ≤ cap.1 ∧ slz S.1 + mi.2.2.2.2.2.2.1 ≤ cap.2) (hd : Does R x [(aR F i)] S none S') (k : Ev R mth cap sc ret tb pc' loc st S') : Ev R mth cap sc ret tb pc loc ((aR F i) :: st) S := by subst hp; refine Ev.mk ⟨_, h, ⟨F, i, wk / 10, rfl, hw, rfl⟩, ?_⟩; exact ev_ck (k := Ev R mth cap sc ret tb) (st := ((aR F i) :: st)) (n := 1) hm (Nat.le_add_left _ _) rfl hc hcap hd k
theorem ev_S1I {n x : Nat} {wk : Nat} {z : Int} {tl : List Nat} {mi : MI} {S' : DS} {a1 : AV} {v : Int32} (h : tb pc = some (.invokestatic n, x, 1, wk, z, tl)) (hw : wk < 2) (hp : pc + 3 = pc') (hm : mth x = some mi) (hc : aCats st ≤ 8 ∧ noScr [a1] = true) (hcap : S.1.length + mi.2.2.2.2.2.1 ≤ cap.1 ∧ slz S.1 + mi.2.2.2.2.2.2.1 ≤ cap.2) (hd : Does R x [a1] S (some (aI v)) S') (k : Ev R mth cap sc ret tb pc' loc (aI v :: st) S') : Ev R mth cap sc ret tb pc loc (a1 :: st) S := by subst hp; refine Ev.mk ⟨_, h, ?_⟩; show (if wk = 7 then _ else if wk = 8 then _ else _); rw [if_neg (by omega), if_neg (by omega)]; exact ev_ck (k := Ev R mth cap sc ret tb) (st := (a1 :: st)) (n := 1) hm (Nat.le_add_left _ _) rfl hc hcap hd k
theorem ev_V1I {n x F i : Nat} {wk : Nat} {z : Int} {tl : List Nat} {mi : MI} {S' : DS}  {v : Int32} (h : tb pc = some (.invokevirtual n, x, 0, wk, z, tl)) (hw : F = wk / 10) (hp : pc + 3 = pc') (hm : mth x = some mi) (hc : aCats st ≤ 8 ∧ noScr [(aR F i)] = true) (hcap : S.1.length + mi.2.2.2.2.2.1 ≤ cap.1 ∧ slz S.1 + mi.2.2.2.2.2.2.1 ≤ cap.2) (hd : Does R x [(aR F i)] S (some (aI v)) S') (k : Ev R mth cap sc ret tb pc' loc (aI v :: st) S') : Ev R mth cap sc ret tb pc loc ((aR F i) :: st) S := by subst hp; refine Ev.mk ⟨_, h, ⟨F, i, wk / 10, rfl, hw, rfl⟩, ?_⟩; exact ev_ck (k := Ev R mth cap sc ret tb) (st := ((aR F i) :: st)) (n := 1) hm (Nat.le_add_left _ _) rfl hc hcap hd k
theorem ev_S1L {n x : Nat} {wk : Nat} {z : Int} {tl : List Nat} {mi : MI} {S' : DS} {a1 : AV} {v : Int64} (h : tb pc = some (.invokestatic n, x, 1, wk, z, tl)) (hw : wk < 2) (hp : pc + 3 = pc') (hm : mth x = some mi) (hc : aCats st ≤ 8 ∧ noScr [a1] = true) (hcap : S.1.length + mi.2.2.2.2.2.1 ≤ cap.1 ∧ slz S.1 + mi.2.2.2.2.2.2.1 ≤ cap.2) (hd : Does R x [a1] S (some (aL v)) S') (k : Ev R mth cap sc ret tb pc' loc (aL v :: st) S') : Ev R mth cap sc ret tb pc loc (a1 :: st) S := by subst hp; refine Ev.mk ⟨_, h, ?_⟩; show (if wk = 7 then _ else if wk = 8 then _ else _); rw [if_neg (by omega), if_neg (by omega)]; exact ev_ck (k := Ev R mth cap sc ret tb) (st := (a1 :: st)) (n := 1) hm (Nat.le_add_left _ _) rfl hc hcap hd k
theorem ev_V1L {n x F i : Nat} {wk : Nat} {z : Int} {tl : List Nat} {mi : MI} {S' : DS}  {v : Int64} (h : tb pc = some (.invokevirtual n, x, 0, wk, z, tl)) (hw : F = wk / 10) (hp : pc + 3 = pc') (hm : mth x = some mi) (hc : aCats st ≤ 8 ∧ noScr [(aR F i)] = true) (hcap : S.1.length + mi.2.2.2.2.2.1 ≤ cap.1 ∧ slz S.1 + mi.2.2.2.2.2.2.1 ≤ cap.2) (hd : Does R x [(aR F i)] S (some (aL v)) S') (k : Ev R mth cap sc ret tb pc' loc (aL v :: st) S') : Ev R mth cap sc ret tb pc loc ((aR F i) :: st) S := by subst hp; refine Ev.mk ⟨_, h, ⟨F, i, wk / 10, rfl, hw, rfl⟩, ?_⟩; exact ev_ck (k := Ev R mth cap sc ret tb) (st := ((aR F i) :: st)) (n := 1) hm (Nat.le_add_left _ _) rfl hc hcap hd k
theorem ev_S1R {n x : Nat} {wk : Nat} {z : Int} {tl : List Nat} {mi : MI} {S' : DS} {a1 : AV} {v : Option (Nat × Nat)} (h : tb pc = some (.invokestatic n, x, 1, wk, z, tl)) (hw : wk < 2) (hp : pc + 3 = pc') (hm : mth x = some mi) (hc : aCats st ≤ 8 ∧ noScr [a1] = true) (hcap : S.1.length + mi.2.2.2.2.2.1 ≤ cap.1 ∧ slz S.1 + mi.2.2.2.2.2.2.1 ≤ cap.2) (hd : Does R x [a1] S (some (.inr v)) S') (k : Ev R mth cap sc ret tb pc' loc (.inr v :: st) S') : Ev R mth cap sc ret tb pc loc (a1 :: st) S := by subst hp; refine Ev.mk ⟨_, h, ?_⟩; show (if wk = 7 then _ else if wk = 8 then _ else _); rw [if_neg (by omega), if_neg (by omega)]; exact ev_ck (k := Ev R mth cap sc ret tb) (st := (a1 :: st)) (n := 1) hm (Nat.le_add_left _ _) rfl hc hcap hd k
theorem ev_V1R {n x F i : Nat} {wk : Nat} {z : Int} {tl : List Nat} {mi : MI} {S' : DS}  {v : Option (Nat × Nat)} (h : tb pc = some (.invokevirtual n, x, 0, wk, z, tl)) (hw : F = wk / 10) (hp : pc + 3 = pc') (hm : mth x = some mi) (hc : aCats st ≤ 8 ∧ noScr [(aR F i)] = true) (hcap : S.1.length + mi.2.2.2.2.2.1 ≤ cap.1 ∧ slz S.1 + mi.2.2.2.2.2.2.1 ≤ cap.2) (hd : Does R x [(aR F i)] S (some (.inr v)) S') (k : Ev R mth cap sc ret tb pc' loc (.inr v :: st) S') : Ev R mth cap sc ret tb pc loc ((aR F i) :: st) S := by subst hp; refine Ev.mk ⟨_, h, ⟨F, i, wk / 10, rfl, hw, rfl⟩, ?_⟩; exact ev_ck (k := Ev R mth cap sc ret tb) (st := ((aR F i) :: st)) (n := 1) hm (Nat.le_add_left _ _) rfl hc hcap hd k
theorem ev_S2V {n x : Nat} {wk : Nat} {z : Int} {tl : List Nat} {mi : MI} {S' : DS} {a1 a2 : AV}  (h : tb pc = some (.invokestatic n, x, 2, wk, z, tl)) (hw : wk < 2) (hp : pc + 3 = pc') (hm : mth x = some mi) (hc : aCats st ≤ 8 ∧ noScr [a2, a1] = true) (hcap : S.1.length + mi.2.2.2.2.2.1 ≤ cap.1 ∧ slz S.1 + mi.2.2.2.2.2.2.1 ≤ cap.2) (hd : Does R x [a1, a2] S none S') (k : Ev R mth cap sc ret tb pc' loc st S') : Ev R mth cap sc ret tb pc loc (a2 :: a1 :: st) S := by subst hp; refine Ev.mk ⟨_, h, ?_⟩; show (if wk = 7 then _ else if wk = 8 then _ else _); rw [if_neg (by omega), if_neg (by omega)]; exact ev_ck (k := Ev R mth cap sc ret tb) (st := (a2 :: a1 :: st)) (n := 2) hm (Nat.le_add_left _ _) rfl hc hcap hd k
theorem ev_V2V {n x F i : Nat} {wk : Nat} {z : Int} {tl : List Nat} {mi : MI} {S' : DS} {a2 : AV}  (h : tb pc = some (.invokevirtual n, x, 1, wk, z, tl)) (hw : F = wk / 10) (hp : pc + 3 = pc') (hm : mth x = some mi) (hc : aCats st ≤ 8 ∧ noScr [a2, (aR F i)] = true) (hcap : S.1.length + mi.2.2.2.2.2.1 ≤ cap.1 ∧ slz S.1 + mi.2.2.2.2.2.2.1 ≤ cap.2) (hd : Does R x [(aR F i), a2] S none S') (k : Ev R mth cap sc ret tb pc' loc st S') : Ev R mth cap sc ret tb pc loc (a2 :: (aR F i) :: st) S := by subst hp; refine Ev.mk ⟨_, h, ⟨F, i, wk / 10, rfl, hw, rfl⟩, ?_⟩; exact ev_ck (k := Ev R mth cap sc ret tb) (st := (a2 :: (aR F i) :: st)) (n := 2) hm (Nat.le_add_left _ _) rfl hc hcap hd k
theorem ev_S2I {n x : Nat} {wk : Nat} {z : Int} {tl : List Nat} {mi : MI} {S' : DS} {a1 a2 : AV} {v : Int32} (h : tb pc = some (.invokestatic n, x, 2, wk, z, tl)) (hw : wk < 2) (hp : pc + 3 = pc') (hm : mth x = some mi) (hc : aCats st ≤ 8 ∧ noScr [a2, a1] = true) (hcap : S.1.length + mi.2.2.2.2.2.1 ≤ cap.1 ∧ slz S.1 + mi.2.2.2.2.2.2.1 ≤ cap.2) (hd : Does R x [a1, a2] S (some (aI v)) S') (k : Ev R mth cap sc ret tb pc' loc (aI v :: st) S') : Ev R mth cap sc ret tb pc loc (a2 :: a1 :: st) S := by subst hp; refine Ev.mk ⟨_, h, ?_⟩; show (if wk = 7 then _ else if wk = 8 then _ else _); rw [if_neg (by omega), if_neg (by omega)]; exact ev_ck (k := Ev R mth cap sc ret tb) (st := (a2 :: a1 :: st)) (n := 2) hm (Nat.le_add_left _ _) rfl hc hcap hd k
theorem ev_V2I {n x F i : Nat} {wk : Nat} {z : Int} {tl : List Nat} {mi : MI} {S' : DS} {a2 : AV} {v : Int32} (h : tb pc = some (.invokevirtual n, x, 1, wk, z, tl)) (hw : F = wk / 10) (hp : pc + 3 = pc') (hm : mth x = some mi) (hc : aCats st ≤ 8 ∧ noScr [a2, (aR F i)] = true) (hcap : S.1.length + mi.2.2.2.2.2.1 ≤ cap.1 ∧ slz S.1 + mi.2.2.2.2.2.2.1 ≤ cap.2) (hd : Does R x [(aR F i), a2] S (some (aI v)) S') (k : Ev R mth cap sc ret tb pc' loc (aI v :: st) S') : Ev R mth cap sc ret tb pc loc (a2 :: (aR F i) :: st) S := by subst hp; refine Ev.mk ⟨_, h, ⟨F, i, wk / 10, rfl, hw, rfl⟩, ?_⟩; exact ev_ck (k := Ev R mth cap sc ret tb) (st := (a2 :: (aR F i) :: st)) (n := 2) hm (Nat.le_add_left _ _) rfl hc hcap hd k
theorem ev_S2L {n x : Nat} {wk : Nat} {z : Int} {tl : List Nat} {mi : MI} {S' : DS} {a1 a2 : AV} {v : Int64} (h : tb pc = some (.invokestatic n, x, 2, wk, z, tl)) (hw : wk < 2) (hp : pc + 3 = pc') (hm : mth x = some mi) (hc : aCats st ≤ 8 ∧ noScr [a2, a1] = true) (hcap : S.1.length + mi.2.2.2.2.2.1 ≤ cap.1 ∧ slz S.1 + mi.2.2.2.2.2.2.1 ≤ cap.2) (hd : Does R x [a1, a2] S (some (aL v)) S') (k : Ev R mth cap sc ret tb pc' loc (aL v :: st) S') : Ev R mth cap sc ret tb pc loc (a2 :: a1 :: st) S := by subst hp; refine Ev.mk ⟨_, h, ?_⟩; show (if wk = 7 then _ else if wk = 8 then _ else _); rw [if_neg (by omega), if_neg (by omega)]; exact ev_ck (k := Ev R mth cap sc ret tb) (st := (a2 :: a1 :: st)) (n := 2) hm (Nat.le_add_left _ _) rfl hc hcap hd k
theorem ev_V2L {n x F i : Nat} {wk : Nat} {z : Int} {tl : List Nat} {mi : MI} {S' : DS} {a2 : AV} {v : Int64} (h : tb pc = some (.invokevirtual n, x, 1, wk, z, tl)) (hw : F = wk / 10) (hp : pc + 3 = pc') (hm : mth x = some mi) (hc : aCats st ≤ 8 ∧ noScr [a2, (aR F i)] = true) (hcap : S.1.length + mi.2.2.2.2.2.1 ≤ cap.1 ∧ slz S.1 + mi.2.2.2.2.2.2.1 ≤ cap.2) (hd : Does R x [(aR F i), a2] S (some (aL v)) S') (k : Ev R mth cap sc ret tb pc' loc (aL v :: st) S') : Ev R mth cap sc ret tb pc loc (a2 :: (aR F i) :: st) S := by subst hp; refine Ev.mk ⟨_, h, ⟨F, i, wk / 10, rfl, hw, rfl⟩, ?_⟩; exact ev_ck (k := Ev R mth cap sc ret tb) (st := (a2 :: (aR F i) :: st)) (n := 2) hm (Nat.le_add_left _ _) rfl hc hcap hd k
theorem ev_S2R {n x : Nat} {wk : Nat} {z : Int} {tl : List Nat} {mi : MI} {S' : DS} {a1 a2 : AV} {v : Option (Nat × Nat)} (h : tb pc = some (.invokestatic n, x, 2, wk, z, tl)) (hw : wk < 2) (hp : pc + 3 = pc') (hm : mth x = some mi) (hc : aCats st ≤ 8 ∧ noScr [a2, a1] = true) (hcap : S.1.length + mi.2.2.2.2.2.1 ≤ cap.1 ∧ slz S.1 + mi.2.2.2.2.2.2.1 ≤ cap.2) (hd : Does R x [a1, a2] S (some (.inr v)) S') (k : Ev R mth cap sc ret tb pc' loc (.inr v :: st) S') : Ev R mth cap sc ret tb pc loc (a2 :: a1 :: st) S := by subst hp; refine Ev.mk ⟨_, h, ?_⟩; show (if wk = 7 then _ else if wk = 8 then _ else _); rw [if_neg (by omega), if_neg (by omega)]; exact ev_ck (k := Ev R mth cap sc ret tb) (st := (a2 :: a1 :: st)) (n := 2) hm (Nat.le_add_left _ _) rfl hc hcap hd k
theorem ev_V2R {n x F i : Nat} {wk : Nat} {z : Int} {tl : List Nat} {mi : MI} {S' : DS} {a2 : AV} {v : Option (Nat × Nat)} (h : tb pc = some (.invokevirtual n, x, 1, wk, z, tl)) (hw : F = wk / 10) (hp : pc + 3 = pc') (hm : mth x = some mi) (hc : aCats st ≤ 8 ∧ noScr [a2, (aR F i)] = true) (hcap : S.1.length + mi.2.2.2.2.2.1 ≤ cap.1 ∧ slz S.1 + mi.2.2.2.2.2.2.1 ≤ cap.2) (hd : Does R x [(aR F i), a2] S (some (.inr v)) S') (k : Ev R mth cap sc ret tb pc' loc (.inr v :: st) S') : Ev R mth cap sc ret tb pc loc (a2 :: (aR F i) :: st) S := by subst hp; refine Ev.mk ⟨_, h, ⟨F, i, wk / 10, rfl, hw, rfl⟩, ?_⟩; exact ev_ck (k := Ev R mth cap sc ret tb) (st := (a2 :: (aR F i) :: st)) (n := 2) hm (Nat.le_add_left _ _) rfl hc hcap hd k
theorem ev_S3V {n x : Nat} {wk : Nat} {z : Int} {tl : List Nat} {mi : MI} {S' : DS} {a1 a2 a3 : AV}  (h : tb pc = some (.invokestatic n, x, 3, wk, z, tl)) (hw : wk < 2) (hp : pc + 3 = pc') (hm : mth x = some mi) (hc : aCats st ≤ 8 ∧ noScr [a3, a2, a1] = true) (hcap : S.1.length + mi.2.2.2.2.2.1 ≤ cap.1 ∧ slz S.1 + mi.2.2.2.2.2.2.1 ≤ cap.2) (hd : Does R x [a1, a2, a3] S none S') (k : Ev R mth cap sc ret tb pc' loc st S') : Ev R mth cap sc ret tb pc loc (a3 :: a2 :: a1 :: st) S := by subst hp; refine Ev.mk ⟨_, h, ?_⟩; show (if wk = 7 then _ else if wk = 8 then _ else _); rw [if_neg (by omega), if_neg (by omega)]; exact ev_ck (k := Ev R mth cap sc ret tb) (st := (a3 :: a2 :: a1 :: st)) (n := 3) hm (Nat.le_add_left _ _) rfl hc hcap hd k
theorem ev_V3V {n x F i : Nat} {wk : Nat} {z : Int} {tl : List Nat} {mi : MI} {S' : DS} {a2 a3 : AV}  (h : tb pc = some (.invokevirtual n, x, 2, wk, z, tl)) (hw : F = wk / 10) (hp : pc + 3 = pc') (hm : mth x = some mi) (hc : aCats st ≤ 8 ∧ noScr [a3, a2, (aR F i)] = true) (hcap : S.1.length + mi.2.2.2.2.2.1 ≤ cap.1 ∧ slz S.1 + mi.2.2.2.2.2.2.1 ≤ cap.2) (hd : Does R x [(aR F i), a2, a3] S none S') (k : Ev R mth cap sc ret tb pc' loc st S') : Ev R mth cap sc ret tb pc loc (a3 :: a2 :: (aR F i) :: st) S := by subst hp; refine Ev.mk ⟨_, h, ⟨F, i, wk / 10, rfl, hw, rfl⟩, ?_⟩; exact ev_ck (k := Ev R mth cap sc ret tb) (st := (a3 :: a2 :: (aR F i) :: st)) (n := 3) hm (Nat.le_add_left _ _) rfl hc hcap hd k
theorem ev_S3I {n x : Nat} {wk : Nat} {z : Int} {tl : List Nat} {mi : MI} {S' : DS} {a1 a2 a3 : AV} {v : Int32} (h : tb pc = some (.invokestatic n, x, 3, wk, z, tl)) (hw : wk < 2) (hp : pc + 3 = pc') (hm : mth x = some mi) (hc : aCats st ≤ 8 ∧ noScr [a3, a2, a1] = true) (hcap : S.1.length + mi.2.2.2.2.2.1 ≤ cap.1 ∧ slz S.1 + mi.2.2.2.2.2.2.1 ≤ cap.2) (hd : Does R x [a1, a2, a3] S (some (aI v)) S') (k : Ev R mth cap sc ret tb pc' loc (aI v :: st) S') : Ev R mth cap sc ret tb pc loc (a3 :: a2 :: a1 :: st) S := by subst hp; refine Ev.mk ⟨_, h, ?_⟩; show (if wk = 7 then _ else if wk = 8 then _ else _); rw [if_neg (by omega), if_neg (by omega)]; exact ev_ck (k := Ev R mth cap sc ret tb) (st := (a3 :: a2 :: a1 :: st)) (n := 3) hm (Nat.le_add_left _ _) rfl hc hcap hd k
theorem ev_V3I {n x F i : Nat} {wk : Nat} {z : Int} {tl : List Nat} {mi : MI} {S' : DS} {a2 a3 : AV} {v : Int32} (h : tb pc = some (.invokevirtual n, x, 2, wk, z, tl)) (hw : F = wk / 10) (hp : pc + 3 = pc') (hm : mth x = some mi) (hc : aCats st ≤ 8 ∧ noScr [a3, a2, (aR F i)] = true) (hcap : S.1.length + mi.2.2.2.2.2.1 ≤ cap.1 ∧ slz S.1 + mi.2.2.2.2.2.2.1 ≤ cap.2) (hd : Does R x [(aR F i), a2, a3] S (some (aI v)) S') (k : Ev R mth cap sc ret tb pc' loc (aI v :: st) S') : Ev R mth cap sc ret tb pc loc (a3 :: a2 :: (aR F i) :: st) S := by subst hp; refine Ev.mk ⟨_, h, ⟨F, i, wk / 10, rfl, hw, rfl⟩, ?_⟩; exact ev_ck (k := Ev R mth cap sc ret tb) (st := (a3 :: a2 :: (aR F i) :: st)) (n := 3) hm (Nat.le_add_left _ _) rfl hc hcap hd k
theorem ev_S3L {n x : Nat} {wk : Nat} {z : Int} {tl : List Nat} {mi : MI} {S' : DS} {a1 a2 a3 : AV} {v : Int64} (h : tb pc = some (.invokestatic n, x, 3, wk, z, tl)) (hw : wk < 2) (hp : pc + 3 = pc') (hm : mth x = some mi) (hc : aCats st ≤ 8 ∧ noScr [a3, a2, a1] = true) (hcap : S.1.length + mi.2.2.2.2.2.1 ≤ cap.1 ∧ slz S.1 + mi.2.2.2.2.2.2.1 ≤ cap.2) (hd : Does R x [a1, a2, a3] S (some (aL v)) S') (k : Ev R mth cap sc ret tb pc' loc (aL v :: st) S') : Ev R mth cap sc ret tb pc loc (a3 :: a2 :: a1 :: st) S := by subst hp; refine Ev.mk ⟨_, h, ?_⟩; show (if wk = 7 then _ else if wk = 8 then _ else _); rw [if_neg (by omega), if_neg (by omega)]; exact ev_ck (k := Ev R mth cap sc ret tb) (st := (a3 :: a2 :: a1 :: st)) (n := 3) hm (Nat.le_add_left _ _) rfl hc hcap hd k
theorem ev_V3L {n x F i : Nat} {wk : Nat} {z : Int} {tl : List Nat} {mi : MI} {S' : DS} {a2 a3 : AV} {v : Int64} (h : tb pc = some (.invokevirtual n, x, 2, wk, z, tl)) (hw : F = wk / 10) (hp : pc + 3 = pc') (hm : mth x = some mi) (hc : aCats st ≤ 8 ∧ noScr [a3, a2, (aR F i)] = true) (hcap : S.1.length + mi.2.2.2.2.2.1 ≤ cap.1 ∧ slz S.1 + mi.2.2.2.2.2.2.1 ≤ cap.2) (hd : Does R x [(aR F i), a2, a3] S (some (aL v)) S') (k : Ev R mth cap sc ret tb pc' loc (aL v :: st) S') : Ev R mth cap sc ret tb pc loc (a3 :: a2 :: (aR F i) :: st) S := by subst hp; refine Ev.mk ⟨_, h, ⟨F, i, wk / 10, rfl, hw, rfl⟩, ?_⟩; exact ev_ck (k := Ev R mth cap sc ret tb) (st := (a3 :: a2 :: (aR F i) :: st)) (n := 3) hm (Nat.le_add_left _ _) rfl hc hcap hd k
theorem ev_S3R {n x : Nat} {wk : Nat} {z : Int} {tl : List Nat} {mi : MI} {S' : DS} {a1 a2 a3 : AV} {v : Option (Nat × Nat)} (h : tb pc = some (.invokestatic n, x, 3, wk, z, tl)) (hw : wk < 2) (hp : pc + 3 = pc') (hm : mth x = some mi) (hc : aCats st ≤ 8 ∧ noScr [a3, a2, a1] = true) (hcap : S.1.length + mi.2.2.2.2.2.1 ≤ cap.1 ∧ slz S.1 + mi.2.2.2.2.2.2.1 ≤ cap.2) (hd : Does R x [a1, a2, a3] S (some (.inr v)) S') (k : Ev R mth cap sc ret tb pc' loc (.inr v :: st) S') : Ev R mth cap sc ret tb pc loc (a3 :: a2 :: a1 :: st) S := by subst hp; refine Ev.mk ⟨_, h, ?_⟩; show (if wk = 7 then _ else if wk = 8 then _ else _); rw [if_neg (by omega), if_neg (by omega)]; exact ev_ck (k := Ev R mth cap sc ret tb) (st := (a3 :: a2 :: a1 :: st)) (n := 3) hm (Nat.le_add_left _ _) rfl hc hcap hd k
theorem ev_V3R {n x F i : Nat} {wk : Nat} {z : Int} {tl : List Nat} {mi : MI} {S' : DS} {a2 a3 : AV} {v : Option (Nat × Nat)} (h : tb pc = some (.invokevirtual n, x, 2, wk, z, tl)) (hw : F = wk / 10) (hp : pc + 3 = pc') (hm : mth x = some mi) (hc : aCats st ≤ 8 ∧ noScr [a3, a2, (aR F i)] = true) (hcap : S.1.length + mi.2.2.2.2.2.1 ≤ cap.1 ∧ slz S.1 + mi.2.2.2.2.2.2.1 ≤ cap.2) (hd : Does R x [(aR F i), a2, a3] S (some (.inr v)) S') (k : Ev R mth cap sc ret tb pc' loc (.inr v :: st) S') : Ev R mth cap sc ret tb pc loc (a3 :: a2 :: (aR F i) :: st) S := by subst hp; refine Ev.mk ⟨_, h, ⟨F, i, wk / 10, rfl, hw, rfl⟩, ?_⟩; exact ev_ck (k := Ev R mth cap sc ret tb) (st := (a3 :: a2 :: (aR F i) :: st)) (n := 3) hm (Nat.le_add_left _ _) rfl hc hcap hd k
theorem ev_S4V {n x : Nat} {wk : Nat} {z : Int} {tl : List Nat} {mi : MI} {S' : DS} {a1 a2 a3 a4 : AV}  (h : tb pc = some (.invokestatic n, x, 4, wk, z, tl)) (hw : wk < 2) (hp : pc + 3 = pc') (hm : mth x = some mi) (hc : aCats st ≤ 8 ∧ noScr [a4, a3, a2, a1] = true) (hcap : S.1.length + mi.2.2.2.2.2.1 ≤ cap.1 ∧ slz S.1 + mi.2.2.2.2.2.2.1 ≤ cap.2) (hd : Does R x [a1, a2, a3, a4] S none S') (k : Ev R mth cap sc ret tb pc' loc st S') : Ev R mth cap sc ret tb pc loc (a4 :: a3 :: a2 :: a1 :: st) S := by subst hp; refine Ev.mk ⟨_, h, ?_⟩; show (if wk = 7 then _ else if wk = 8 then _ else _); rw [if_neg (by omega), if_neg (by omega)]; exact ev_ck (k := Ev R mth cap sc ret tb) (st := (a4 :: a3 :: a2 :: a1 :: st)) (n := 4) hm (Nat.le_add_left _ _) rfl hc hcap hd k
theorem ev_V4V {n x F i : Nat} {wk : Nat} {z : Int} {tl : List Nat} {mi : MI} {S' : DS} {a2 a3 a4 : AV}  (h : tb pc = some (.invokevirtual n, x, 3, wk, z, tl)) (hw : F = wk / 10) (hp : pc + 3 = pc') (hm : mth x = some mi) (hc : aCats st ≤ 8 ∧ noScr [a4, a3, a2, (aR F i)] = true) (hcap : S.1.length + mi.2.2.2.2.2.1 ≤ cap.1 ∧ slz S.1 + mi.2.2.2.2.2.2.1 ≤ cap.2) (hd : Does R x [(aR F i), a2, a3, a4] S none S') (k : Ev R mth cap sc ret tb pc' loc st S') : Ev R mth cap sc ret tb pc loc (a4 :: a3 :: a2 :: (aR F i) :: st) S := by subst hp; refine Ev.mk ⟨_, h, ⟨F, i, wk / 10, rfl, hw, rfl⟩, ?_⟩; exact ev_ck (k := Ev R mth cap sc ret tb) (st := (a4 :: a3 :: a2 :: (aR F i) :: st)) (n := 4) hm (Nat.le_add_left _ _) rfl hc hcap hd k
theorem ev_S4I {n x : Nat} {wk : Nat} {z : Int} {tl : List Nat} {mi : MI} {S' : DS} {a1 a2 a3 a4 : AV} {v : Int32} (h : tb pc = some (.invokestatic n, x, 4, wk, z, tl)) (hw : wk < 2) (hp : pc + 3 = pc') (hm : mth x = some mi) (hc : aCats st ≤ 8 ∧ noScr [a4, a3, a2, a1] = true) (hcap : S.1.length + mi.2.2.2.2.2.1 ≤ cap.1 ∧ slz S.1 + mi.2.2.2.2.2.2.1 ≤ cap.2) (hd : Does R x [a1, a2, a3, a4] S (some (aI v)) S') (k : Ev R mth cap sc ret tb pc' loc (aI v :: st) S') : Ev R mth cap sc ret tb pc loc (a4 :: a3 :: a2 :: a1 :: st) S := by subst hp; refine Ev.mk ⟨_, h, ?_⟩; show (if wk = 7 then _ else if wk = 8 then _ else _); rw [if_neg (by omega), if_neg (by omega)]; exact ev_ck (k := Ev R mth cap sc ret tb) (st := (a4 :: a3 :: a2 :: a1 :: st)) (n := 4) hm (Nat.le_add_left _ _) rfl hc hcap hd k
theorem ev_V4I {n x F i : Nat} {wk : Nat} {z : Int} {tl : List Nat} {mi : MI} {S' : DS} {a2 a3 a4 : AV} {v : Int32} (h : tb pc = some (.invokevirtual n, x, 3, wk, z, tl)) (hw : F = wk / 10) (hp : pc + 3 = pc') (hm : mth x = some mi) (hc : aCats st ≤ 8 ∧ noScr [a4, a3, a2, (aR F i)] = true) (hcap : S.1.length + mi.2.2.2.2.2.1 ≤ cap.1 ∧ slz S.1 + mi.2.2.2.2.2.2.1 ≤ cap.2) (hd : Does R x [(aR F i), a2, a3, a4] S (some (aI v)) S') (k : Ev R mth cap sc ret tb pc' loc (aI v :: st) S') : Ev R mth cap sc ret tb pc loc (a4 :: a3 :: a2 :: (aR F i) :: st) S := by subst hp; refine Ev.mk ⟨_, h, ⟨F, i, wk / 10, rfl, hw, rfl⟩, ?_⟩; exact ev_ck (k := Ev R mth cap sc ret tb) (st := (a4 :: a3 :: a2 :: (aR F i) :: st)) (n := 4) hm (Nat.le_add_left _ _) rfl hc hcap hd k
theorem ev_S4L {n x : Nat} {wk : Nat} {z : Int} {tl : List Nat} {mi : MI} {S' : DS} {a1 a2 a3 a4 : AV} {v : Int64} (h : tb pc = some (.invokestatic n, x, 4, wk, z, tl)) (hw : wk < 2) (hp : pc + 3 = pc') (hm : mth x = some mi) (hc : aCats st ≤ 8 ∧ noScr [a4, a3, a2, a1] = true) (hcap : S.1.length + mi.2.2.2.2.2.1 ≤ cap.1 ∧ slz S.1 + mi.2.2.2.2.2.2.1 ≤ cap.2) (hd : Does R x [a1, a2, a3, a4] S (some (aL v)) S') (k : Ev R mth cap sc ret tb pc' loc (aL v :: st) S') : Ev R mth cap sc ret tb pc loc (a4 :: a3 :: a2 :: a1 :: st) S := by subst hp; refine Ev.mk ⟨_, h, ?_⟩; show (if wk = 7 then _ else if wk = 8 then _ else _); rw [if_neg (by omega), if_neg (by omega)]; exact ev_ck (k := Ev R mth cap sc ret tb) (st := (a4 :: a3 :: a2 :: a1 :: st)) (n := 4) hm (Nat.le_add_left _ _) rfl hc hcap hd k
theorem ev_V4L {n x F i : Nat} {wk : Nat} {z : Int} {tl : List Nat} {mi : MI} {S' : DS} {a2 a3 a4 : AV} {v : Int64} (h : tb pc = some (.invokevirtual n, x, 3, wk, z, tl)) (hw : F = wk / 10) (hp : pc + 3 = pc') (hm : mth x = some mi) (hc : aCats st ≤ 8 ∧ noScr [a4, a3, a2, (aR F i)] = true) (hcap : S.1.length + mi.2.2.2.2.2.1 ≤ cap.1 ∧ slz S.1 + mi.2.2.2.2.2.2.1 ≤ cap.2) (hd : Does R x [(aR F i), a2, a3, a4] S (some (aL v)) S') (k : Ev R mth cap sc ret tb pc' loc (aL v :: st) S') : Ev R mth cap sc ret tb pc loc (a4 :: a3 :: a2 :: (aR F i) :: st) S := by subst hp; refine Ev.mk ⟨_, h, ⟨F, i, wk / 10, rfl, hw, rfl⟩, ?_⟩; exact ev_ck (k := Ev R mth cap sc ret tb) (st := (a4 :: a3 :: a2 :: (aR F i) :: st)) (n := 4) hm (Nat.le_add_left _ _) rfl hc hcap hd k
theorem ev_S4R {n x : Nat} {wk : Nat} {z : Int} {tl : List Nat} {mi : MI} {S' : DS} {a1 a2 a3 a4 : AV} {v : Option (Nat × Nat)} (h : tb pc = some (.invokestatic n, x, 4, wk, z, tl)) (hw : wk < 2) (hp : pc + 3 = pc') (hm : mth x = some mi) (hc : aCats st ≤ 8 ∧ noScr [a4, a3, a2, a1] = true) (hcap : S.1.length + mi.2.2.2.2.2.1 ≤ cap.1 ∧ slz S.1 + mi.2.2.2.2.2.2.1 ≤ cap.2) (hd : Does R x [a1, a2, a3, a4] S (some (.inr v)) S') (k : Ev R mth cap sc ret tb pc' loc (.inr v :: st) S') : Ev R mth cap sc ret tb pc loc (a4 :: a3 :: a2 :: a1 :: st) S := by subst hp; refine Ev.mk ⟨_, h, ?_⟩; show (if wk = 7 then _ else if wk = 8 then _ else _); rw [if_neg (by omega), if_neg (by omega)]; exact ev_ck (k := Ev R mth cap sc ret tb) (st := (a4 :: a3 :: a2 :: a1 :: st)) (n := 4) hm (Nat.le_add_left _ _) rfl hc hcap hd k
theorem ev_V4R {n x F i : Nat} {wk : Nat} {z : Int} {tl : List Nat} {mi : MI} {S' : DS} {a2 a3 a4 : AV} {v : Option (Nat × Nat)} (h : tb pc = some (.invokevirtual n, x, 3, wk, z, tl)) (hw : F = wk / 10) (hp : pc + 3 = pc') (hm : mth x = some mi) (hc : aCats st ≤ 8 ∧ noScr [a4, a3, a2, (aR F i)] = true) (hcap : S.1.length + mi.2.2.2.2.2.1 ≤ cap.1 ∧ slz S.1 + mi.2.2.2.2.2.2.1 ≤ cap.2) (hd : Does R x [(aR F i), a2, a3, a4] S (some (.inr v)) S') (k : Ev R mth cap sc ret tb pc' loc (.inr v :: st) S') : Ev R mth cap sc ret tb pc loc (a4 :: a3 :: a2 :: (aR F i) :: st) S := by subst hp; refine Ev.mk ⟨_, h, ⟨F, i, wk / 10, rfl, hw, rfl⟩, ?_⟩; exact ev_ck (k := Ev R mth cap sc ret tb) (st := (a4 :: a3 :: a2 :: (aR F i) :: st)) (n := 4) hm (Nat.le_add_left _ _) rfl hc hcap hd k
theorem ev_S5V {n x : Nat} {wk : Nat} {z : Int} {tl : List Nat} {mi : MI} {S' : DS} {a1 a2 a3 a4 a5 : AV}  (h : tb pc = some (.invokestatic n, x, 5, wk, z, tl)) (hw : wk < 2) (hp : pc + 3 = pc') (hm : mth x = some mi) (hc : aCats st ≤ 8 ∧ noScr [a5, a4, a3, a2, a1] = true) (hcap : S.1.length + mi.2.2.2.2.2.1 ≤ cap.1 ∧ slz S.1 + mi.2.2.2.2.2.2.1 ≤ cap.2) (hd : Does R x [a1, a2, a3, a4, a5] S none S') (k : Ev R mth cap sc ret tb pc' loc st S') : Ev R mth cap sc ret tb pc loc (a5 :: a4 :: a3 :: a2 :: a1 :: st) S := by subst hp; refine Ev.mk ⟨_, h, ?_⟩; show (if wk = 7 then _ else if wk = 8 then _ else _); rw [if_neg (by omega), if_neg (by omega)]; exact ev_ck (k := Ev R mth cap sc ret tb) (st := (a5 :: a4 :: a3 :: a2 :: a1 :: st)) (n := 5) hm (Nat.le_add_left _ _) rfl hc hcap hd k
theorem ev_V5V {n x F i : Nat} {wk : Nat} {z : Int} {tl : List Nat} {mi : MI} {S' : DS} {a2 a3 a4 a5 : AV}  (h : tb pc = some (.invokevirtual n, x, 4, wk, z, tl)) (hw : F = wk / 10) (hp : pc + 3 = pc') (hm : mth x = some mi) (hc : aCats st ≤ 8 ∧ noScr [a5, a4, a3, a2, (aR F i)] = true) (hcap : S.1.length + mi.2.2.2.2.2.1 ≤ cap.1 ∧ slz S.1 + mi.2.2.2.2.2.2.1 ≤ cap.2) (hd : Does R x [(aR F i), a2, a3, a4, a5] S none S') (k : Ev R mth cap sc ret tb pc' loc st S') : Ev R mth cap sc ret tb pc loc (a5 :: a4 :: a3 :: a2 :: (aR F i) :: st) S := by subst hp; refine Ev.mk ⟨_, h, ⟨F, i, wk / 10, rfl, hw, rfl⟩, ?_⟩; exact ev_ck (k := Ev R mth cap sc ret tb) (st := (a5 :: a4 :: a3 :: a2 :: (aR F i) :: st)) (n := 5) hm (Nat.le_add_left _ _) rfl hc hcap hd k
theorem ev_S5I {n x : Nat} {wk : Nat} {z : Int} {tl : List Nat} {mi : MI} {S' : DS} {a1 a2 a3 a4 a5 : AV} {v : Int32} (h : tb pc = some (.invokestatic n, x, 5, wk, z, tl)) (hw : wk < 2) (hp : pc + 3 = pc') (hm : mth x = some mi) (hc : aCats st ≤ 8 ∧ noScr [a5, a4, a3, a2, a1] = true) (hcap : S.1.length + mi.2.2.2.2.2.1 ≤ cap.1 ∧ slz S.1 + mi.2.2.2.2.2.2.1 ≤ cap.2) (hd : Does R x [a1, a2, a3, a4, a5] S (some (aI v)) S') (k : Ev R mth cap sc ret tb pc' loc (aI v :: st) S') : Ev R mth cap sc ret tb pc loc (a5 :: a4 :: a3 :: a2 :: a1 :: st) S := by subst hp; refine Ev.mk ⟨_, h, ?_⟩; show (if wk = 7 then _ else if wk = 8 then _ else _); rw [if_neg (by omega), if_neg (by omega)]; exact ev_ck (k := Ev R mth cap sc ret tb) (st := (a5 :: a4 :: a3 :: a2 :: a1 :: st)) (n := 5) hm (Nat.le_add_left _ _) rfl hc hcap hd k
theorem ev_V5I {n x F i : Nat} {wk : Nat} {z : Int} {tl : List Nat} {mi : MI} {S' : DS} {a2 a3 a4 a5 : AV} {v : Int32} (h : tb pc = some (.invokevirtual n, x, 4, wk, z, tl)) (hw : F = wk / 10) (hp : pc + 3 = pc') (hm : mth x = some mi) (hc : aCats st ≤ 8 ∧ noScr [a5, a4, a3, a2, (aR F i)] = true) (hcap : S.1.length + mi.2.2.2.2.2.1 ≤ cap.1 ∧ slz S.1 + mi.2.2.2.2.2.2.1 ≤ cap.2) (hd : Does R x [(aR F i), a2, a3, a4, a5] S (some (aI v)) S') (k : Ev R mth cap sc ret tb pc' loc (aI v :: st) S') : Ev R mth cap sc ret tb pc loc (a5 :: a4 :: a3 :: a2 :: (aR F i) :: st) S := by subst hp; refine Ev.mk ⟨_, h, ⟨F, i, wk / 10, rfl, hw, rfl⟩, ?_⟩; exact ev_ck (k := Ev R mth cap sc ret tb) (st := (a5 :: a4 :: a3 :: a2 :: (aR F i) :: st)) (n := 5) hm (Nat.le_add_left _ _) rfl hc hcap hd k
theorem ev_S5L {n x : Nat} {wk : Nat} {z : Int} {tl : List Nat} {mi : MI} {S' : DS} {a1 a2 a3 a4 a5 : AV} {v : Int64} (h : tb pc = some (.invokestatic n, x, 5, wk, z, tl)) (hw : wk < 2) (hp : pc + 3 = pc') (hm : mth x = some mi) (hc : aCats st ≤ 8 ∧ noScr [a5, a4, a3, a2, a1] = true) (hcap : S.1.length + mi.2.2.2.2.2.1 ≤ cap.1 ∧ slz S.1 + mi.2.2.2.2.2.2.1 ≤ cap.2) (hd : Does R x [a1, a2, a3, a4, a5] S (some (aL v)) S') (k : Ev R mth cap sc ret tb pc' loc (aL v :: st) S') : Ev R mth cap sc ret tb pc loc (a5 :: a4 :: a3 :: a2 :: a1 :: st) S := by subst hp; refine Ev.mk ⟨_, h, ?_⟩; show (if wk = 7 then _ else if wk = 8 then _ else _); rw [if_neg (by omega), if_neg (by omega)]; exact ev_ck (k := Ev R mth cap sc ret tb) (st := (a5 :: a4 :: a3 :: a2 :: a1 :: st)) (n := 5) hm (Nat.le_add_left _ _) rfl hc hcap hd k
theorem ev_V5L {n x F i : Nat} {wk : Nat} {z : Int} {tl : List Nat} {mi : MI} {S' : DS} {a2 a3 a4 a5 : AV} {v : Int64} (h : tb pc = some (.invokevirtual n, x, 4, wk, z, tl)) (hw : F = wk / 10) (hp : pc + 3 = pc') (hm : mth x = some mi) (hc : aCats st ≤ 8 ∧ noScr [a5, a4, a3, a2, (aR F i)] = true) (hcap : S.1.length + mi.2.2.2.2.2.1 ≤ cap.1 ∧ slz S.1 + mi.2.2.2.2.2.2.1 ≤ cap.2) (hd : Does R x [(aR F i), a2, a3, a4, a5] S (some (aL v)) S') (k : Ev R mth cap sc ret tb pc' loc (aL v :: st) S') : Ev R mth cap sc ret tb pc loc (a5 :: a4 :: a3 :: a2 :: (aR F i) :: st) S := by subst hp; refine Ev.mk ⟨_, h, ⟨F, i, wk / 10, rfl, hw, rfl⟩, ?_⟩; exact ev_ck (k := Ev R mth cap sc ret tb) (st := (a5 :: a4 :: a3 :: a2 :: (aR F i) :: st)) (n := 5) hm (Nat.le_add_left _ _) rfl hc hcap hd k
theorem ev_S5R {n x : Nat} {wk : Nat} {z : Int} {tl : List Nat} {mi : MI} {S' : DS} {a1 a2 a3 a4 a5 : AV} {v : Option (Nat × Nat)} (h : tb pc = some (.invokestatic n, x, 5, wk, z, tl)) (hw : wk < 2) (hp : pc + 3 = pc') (hm : mth x = some mi) (hc : aCats st ≤ 8 ∧ noScr [a5, a4, a3, a2, a1] = true) (hcap : S.1.length + mi.2.2.2.2.2.1 ≤ cap.1 ∧ slz S.1 + mi.2.2.2.2.2.2.1 ≤ cap.2) (hd : Does R x [a1, a2, a3, a4, a5] S (some (.inr v)) S') (k : Ev R mth cap sc ret tb pc' loc (.inr v :: st) S') : Ev R mth cap sc ret tb pc loc (a5 :: a4 :: a3 :: a2 :: a1 :: st) S := by subst hp; refine Ev.mk ⟨_, h, ?_⟩; show (if wk = 7 then _ else if wk = 8 then _ else _); rw [if_neg (by omega), if_neg (by omega)]; exact ev_ck (k := Ev R mth cap sc ret tb) (st := (a5 :: a4 :: a3 :: a2 :: a1 :: st)) (n := 5) hm (Nat.le_add_left _ _) rfl hc hcap hd k
theorem ev_V5R {n x F i : Nat} {wk : Nat} {z : Int} {tl : List Nat} {mi : MI} {S' : DS} {a2 a3 a4 a5 : AV} {v : Option (Nat × Nat)} (h : tb pc = some (.invokevirtual n, x, 4, wk, z, tl)) (hw : F = wk / 10) (hp : pc + 3 = pc') (hm : mth x = some mi) (hc : aCats st ≤ 8 ∧ noScr [a5, a4, a3, a2, (aR F i)] = true) (hcap : S.1.length + mi.2.2.2.2.2.1 ≤ cap.1 ∧ slz S.1 + mi.2.2.2.2.2.2.1 ≤ cap.2) (hd : Does R x [(aR F i), a2, a3, a4, a5] S (some (.inr v)) S') (k : Ev R mth cap sc ret tb pc' loc (.inr v :: st) S') : Ev R mth cap sc ret tb pc loc (a5 :: a4 :: a3 :: a2 :: (aR F i) :: st) S := by subst hp; refine Ev.mk ⟨_, h, ⟨F, i, wk / 10, rfl, hw, rfl⟩, ?_⟩; exact ev_ck (k := Ev R mth cap sc ret tb) (st := (a5 :: a4 :: a3 :: a2 :: (aR F i) :: st)) (n := 5) hm (Nat.le_add_left _ _) rfl hc hcap hd k
theorem ev_S6V {n x : Nat} {wk : Nat} {z : Int} {tl : List Nat} {mi : MI} {S' : DS} {a1 a2 a3 a4 a5 a6 : AV}  (h : tb pc = some (.invokestatic n, x, 6, wk, z, tl)) (hw : wk < 2) (hp : pc + 3 = pc') (hm : mth x = some mi) (hc : aCats st ≤ 8 ∧ noScr [a6, a5, a4, a3, a2, a1] = true) (hcap : S.1.length + mi.2.2.2.2.2.1 ≤ cap.1 ∧ slz S.1 + mi.2.2.2.2.2.2.1 ≤ cap.2) (hd : Does R x [a1, a2, a3, a4, a5, a6] S none S') (k : Ev R mth cap sc ret tb pc' loc st S') : Ev R mth cap sc ret tb pc loc (a6 :: a5 :: a4 :: a3 :: a2 :: a1 :: st) S := by subst hp; refine Ev.mk ⟨_, h, ?_⟩; show (if wk = 7 then _ else if wk = 8 then _ else _); rw [if_neg (by omega), if_neg (by omega)]; exact ev_ck (k := Ev R mth cap sc ret tb) (st := (a6 :: a5 :: a4 :: a3 :: a2 :: a1 :: st)) (n := 6) hm (Nat.le_add_left _ _) rfl hc hcap hd k
theorem ev_V6V {n x F i : Nat} {wk : Nat} {z : Int} {tl : List Nat} {mi : MI} {S' : DS} {a2 a3 a4 a5 a6 : AV}  (h : tb pc = some (.invokevirtual n, x, 5, wk, z, tl)) (hw : F = wk / 10) (hp : pc + 3 = pc') (hm : mth x = some mi) (hc : aCats st ≤ 8 ∧ noScr [a6, a5, a4, a3, a2, (aR F i)] = true) (hcap : S.1.length + mi.2.2.2.2.2.1 ≤ cap.1 ∧ slz S.1 + mi.2.2.2.2.2.2.1 ≤ cap.2) (hd : Does R x [(aR F i), a2, a3, a4, a5, a6] S none S') (k : Ev R mth cap sc ret tb pc' loc st S') : Ev R mth cap sc ret tb pc loc (a6 :: a5 :: a4 :: a3 :: a2 :: (aR F i) :: st) S := by subst hp; refine Ev.mk ⟨_, h, ⟨F, i, wk / 10, rfl, hw, rfl⟩, ?_⟩; exact ev_ck (k := Ev R mth cap sc ret tb) (st := (a6 :: a5 :: a4 :: a3 :: a2 :: (aR F i) :: st)) (n := 6) hm (Nat.le_add_left _ _) rfl hc hcap hd k
theorem ev_S6I {n x : Nat} {wk : Nat} {z : Int} {tl : List Nat} {mi : MI} {S' : DS} {a1 a2 a3 a4 a5 a6 : AV} {v : Int32} (h : tb pc = some (.invokestatic n, x, 6, wk, z, tl)) (hw : wk < 2) (hp : pc + 3 = pc') (hm : mth x = some mi) (hc : aCats st ≤ 8 ∧ noScr [a6, a5, a4, a3, a2, a1] = true) (hcap : S.1.length + mi.2.2.2.2.2.1 ≤ cap.1 ∧ slz S.1 + mi.2.2.2.2.2.2.1 ≤ cap.2) (hd : Does R x [a1, a2, a3, a4, a5, a6] S (some (aI v)) S') (k : Ev R mth cap sc ret tb pc' loc (aI v :: st) S') : Ev R mth cap sc ret tb pc loc (a6 :: a5 :: a4 :: a3 :: a2 :: a1 :: st) S := by subst hp; refine Ev.mk ⟨_, h, ?_⟩; show (if wk = 7 then _ else if wk = 8 then _ else _); rw [if_neg (by omega), if_neg (by omega)]; exact ev_ck (k := Ev R mth cap sc ret tb) (st := (a6 :: a5 :: a4 :: a3 :: a2 :: a1 :: st)) (n := 6) hm (Nat.le_add_left _ _) rfl hc hcap hd k
theorem ev_V6I {n x F i : Nat} {wk : Nat} {z : Int} {tl : List Nat} {mi : MI} {S' : DS} {a2 a3 a4 a5 a6 : AV} {v : Int32} (h : tb pc = some (.invokevirtual n, x, 5, wk, z, tl)) (hw : F = wk / 10) (hp : pc + 3 = pc') (hm : mth x = some mi) (hc : aCats st ≤ 8 ∧ noScr [a6, a5, a4, a3, a2, (aR F i)] = true) (hcap : S.1.length + mi.2.2.2.2.2.1 ≤ cap.1 ∧ slz S.1 + mi.2.2.2.2.2.2.1 ≤ cap.2) (hd : Does R x [(aR F i), a2, a3, a4, a5, a6] S (some (aI v)) S') (k : Ev R mth cap sc ret tb pc' loc (aI v :: st) S') : Ev R mth cap sc ret tb pc loc (a6 :: a5 :: a4 :: a3 :: a2 :: (aR F i) :: st) S := by subst hp; refine Ev.mk ⟨_, h, ⟨F, i, wk / 10, rfl, hw, rfl⟩, ?_⟩; exact ev_ck (k := Ev R mth cap sc ret tb) (st := (a6 :: a5 :: a4 :: a3 :: a2 :: (aR F i) :: st)) (n := 6) hm (Nat.le_add_left _ _) rfl hc hcap hd k
theorem ev_S6L {n x : Nat} {wk : Nat} {z : Int} {tl : List Nat} {mi : MI} {S' : DS} {a1 a2 a3 a4 a5 a6 : AV} {v : Int64} (h : tb pc = some (.invokestatic n, x, 6, wk, z, tl)) (hw : wk < 2) (hp : pc + 3 = pc') (hm : mth x = some mi) (hc : aCats st ≤ 8 ∧ noScr [a6, a5, a4, a3, a2, a1] = true) (hcap : S.1.length + mi.2.2.2.2.2.1 ≤ cap.1 ∧ slz S.1 + mi.2.2.2.2.2.2.1 ≤ cap.2) (hd : Does R x [a1, a2, a3, a4, a5, a6] S (some (aL v)) S') (k : Ev R mth cap sc ret tb pc' loc (aL v :: st) S') : Ev R mth cap sc ret tb pc loc (a6 :: a5 :: a4 :: a3 :: a2 :: a1 :: st) S := by subst hp; refine Ev.mk ⟨_, h, ?_⟩; show (if wk = 7 then _ else if wk = 8 then _ else _); rw [if_neg (by omega), if_neg (by omega)]; exact ev_ck (k := Ev R mth cap sc ret tb) (st := (a6 :: a5 :: a4 :: a3 :: a2 :: a1 :: st)) (n := 6) hm (Nat.le_add_left _ _) rfl hc hcap hd k
theorem ev_V6L {n x F i : Nat} {wk : Nat} {z : Int} {tl : List Nat} {mi : MI} {S' : DS} {a2 a3 a4 a5 a6 : AV} {v : Int64} (h : tb pc = some (.invokevirtual n, x, 5, wk, z, tl)) (hw : F = wk / 10) (hp : pc + 3 = pc') (hm : mth x = some mi) (hc : aCats st ≤ 8 ∧ noScr [a6, a5, a4, a3, a2, (aR F i)] = true) (hcap : S.1.length + mi.2.2.2.2.2.1 ≤ cap.1 ∧ slz S.1 + mi.2.2.2.2.2.2.1 ≤ cap.2) (hd : Does R x [(aR F i), a2, a3, a4, a5, a6] S (some (aL v)) S') (k : Ev R mth cap sc ret tb pc' loc (aL v :: st) S') : Ev R mth cap sc ret tb pc loc (a6 :: a5 :: a4 :: a3 :: a2 :: (aR F i) :: st) S := by subst hp; refine Ev.mk ⟨_, h, ⟨F, i, wk / 10, rfl, hw, rfl⟩, ?_⟩; exact ev_ck (k := Ev R mth cap sc ret tb) (st := (a6 :: a5 :: a4 :: a3 :: a2 :: (aR F i) :: st)) (n := 6) hm (Nat.le_add_left _ _) rfl hc hcap hd k
theorem ev_S6R {n x : Nat} {wk : Nat} {z : Int} {tl : List Nat} {mi : MI} {S' : DS} {a1 a2 a3 a4 a5 a6 : AV} {v : Option (Nat × Nat)} (h : tb pc = some (.invokestatic n, x, 6, wk, z, tl)) (hw : wk < 2) (hp : pc + 3 = pc') (hm : mth x = some mi) (hc : aCats st ≤ 8 ∧ noScr [a6, a5, a4, a3, a2, a1] = true) (hcap : S.1.length + mi.2.2.2.2.2.1 ≤ cap.1 ∧ slz S.1 + mi.2.2.2.2.2.2.1 ≤ cap.2) (hd : Does R x [a1, a2, a3, a4, a5, a6] S (some (.inr v)) S') (k : Ev R mth cap sc ret tb pc' loc (.inr v :: st) S') : Ev R mth cap sc ret tb pc loc (a6 :: a5 :: a4 :: a3 :: a2 :: a1 :: st) S := by subst hp; refine Ev.mk ⟨_, h, ?_⟩; show (if wk = 7 then _ else if wk = 8 then _ else _); rw [if_neg (by omega), if_neg (by omega)]; exact ev_ck (k := Ev R mth cap sc ret tb) (st := (a6 :: a5 :: a4 :: a3 :: a2 :: a1 :: st)) (n := 6) hm (Nat.le_add_left _ _) rfl hc hcap hd k
theorem ev_V6R {n x F i : Nat} {wk : Nat} {z : Int} {tl : List Nat} {mi : MI} {S' : DS} {a2 a3 a4 a5 a6 : AV} {v : Option (Nat × Nat)} (h : tb pc = some (.invokevirtual n, x, 5, wk, z, tl)) (hw : F = wk / 10) (hp : pc + 3 = pc') (hm : mth x = some mi) (hc : aCats st ≤ 8 ∧ noScr [a6, a5, a4, a3, a2, (aR F i)] = true) (hcap : S.1.length + mi.2.2.2.2.2.1 ≤ cap.1 ∧ slz S.1 + mi.2.2.2.2.2.2.1 ≤ cap.2) (hd : Does R x [(aR F i), a2, a3, a4, a5, a6] S (some (.inr v)) S') (k : Ev R mth cap sc ret tb pc' loc (.inr v :: st) S') : Ev R mth cap sc ret tb pc loc (a6 :: a5 :: a4 :: a3 :: a2 :: (aR F i) :: st) S := by subst hp; refine Ev.mk ⟨_, h, ⟨F, i, wk / 10, rfl, hw, rfl⟩, ?_⟩; exact ev_ck (k := Ev R mth cap sc ret tb) (st := (a6 :: a5 :: a4 :: a3 :: a2 :: (aR F i) :: st)) (n := 6) hm (Nat.le_add_left _ _) rfl hc hcap hd k
theorem ev_S7V {n x : Nat} {wk : Nat} {z : Int} {tl : List Nat} {mi : MI} {S' : DS} {a1 a2 a3 a4 a5 a6 a7 : AV}  (h : tb pc = some (.invokestatic n, x, 7, wk, z, tl)) (hw : wk < 2) (hp : pc + 3 = pc') (hm : mth x = some mi) (hc : aCats st ≤ 8 ∧ noScr [a7, a6, a5, a4, a3, a2, a1] = true) (hcap : S.1.length + mi.2.2.2.2.2.1 ≤ cap.1 ∧ slz S.1 + mi.2.2.2.2.2.2.1 ≤ cap.2) (hd : Does R x [a1, a2, a3, a4, a5, a6, a7] S none S') (k : Ev R mth cap sc ret tb pc' loc st S') : Ev R mth cap sc ret tb pc loc (a7 :: a6 :: a5 :: a4 :: a3 :: a2 :: a1 :: st) S := by subst hp; refine Ev.mk ⟨_, h, ?_⟩; show (if wk = 7 then _ else if wk = 8 then _ else _); rw [if_neg (by omega), if_neg (by omega)]; exact ev_ck (k := Ev R mth cap sc ret tb) (st := (a7 :: a6 :: a5 :: a4 :: a3 :: a2 :: a1 :: st)) (n := 7) hm (Nat.le_add_left _ _) rfl hc hcap hd k
theorem ev_V7V {n x F i : Nat} {wk : Nat} {z : Int} {tl : List Nat} {mi : MI} {S' : DS} {a2 a3 a4 a5 a6 a7 : AV}  (h : tb pc = some (.invokevirtual n, x, 6, wk, z, tl)) (hw : F = wk / 10) (hp : pc + 3 = pc') (hm : mth x = some mi) (hc : aCats st ≤ 8 ∧ noScr [a7, a6, a5, a4, a3, a2, (aR F i)] = true) (hcap : S.1.length + mi.2.2.2.2.2.1 ≤ cap.1 ∧ slz S.1 + mi.2.2.2.2.2.2.1 ≤ cap.2) (hd : Does R x [(aR F i), a2, a3, a4, a5, a6, a7] S none S') (k : Ev R mth cap sc ret tb pc' loc st S') : Ev R mth cap sc ret tb pc loc (a7 :: a6 :: a5 :: a4 :: a3 :: a2 :: (aR F i) :: st) S := by subst hp; refine Ev.mk ⟨_, h, ⟨F, i, wk / 10, rfl, hw, rfl⟩, ?_⟩; exact ev_ck (k := Ev R mth cap sc ret tb) (st := (a7 :: a6 :: a5 :: a4 :: a3 :: a2 :: (aR F i) :: st)) (n := 7) hm (Nat.le_add_left _ _) rfl hc hcap hd k
theorem ev_S7I {n x : Nat} {wk : Nat} {z : Int} {tl : List Nat} {mi : MI} {S' : DS} {a1 a2 a3 a4 a5 a6 a7 : AV} {v : Int32} (h : tb pc = some (.invokestatic n, x, 7, wk, z, tl)) (hw : wk < 2) (hp : pc + 3 = pc') (hm : mth x = some mi) (hc : aCats st ≤ 8 ∧ noScr [a7, a6, a5, a4, a3, a2, a1] = true) (hcap : S.1.length + mi.2.2.2.2.2.1 ≤ cap.1 ∧ slz S.1 + mi.2.2.2.2.2.2.1 ≤ cap.2) (hd : Does R x [a1, a2, a3, a4, a5, a6, a7] S (some (aI v)) S') (k : Ev R mth cap sc ret tb pc' loc (aI v :: st) S') : Ev R mth cap sc ret tb pc loc (a7 :: a6 :: a5 :: a4 :: a3 :: a2 :: a1 :: st) S := by subst hp; refine Ev.mk ⟨_, h, ?_⟩; show (if wk = 7 then _ else if wk = 8 then _ else _); rw [if_neg (by omega), if_neg (by omega)]; exact ev_ck (k := Ev R mth cap sc ret tb) (st := (a7 :: a6 :: a5 :: a4 :: a3 :: a2 :: a1 :: st)) (n := 7) hm (Nat.le_add_left _ _) rfl hc hcap hd k
theorem ev_V7I {n x F i : Nat} {wk : Nat} {z : Int} {tl : List Nat} {mi : MI} {S' : DS} {a2 a3 a4 a5 a6 a7 : AV} {v : Int32} (h : tb pc = some (.invokevirtual n, x, 6, wk, z, tl)) (hw : F = wk / 10) (hp : pc + 3 = pc') (hm : mth x = some mi) (hc : aCats st ≤ 8 ∧ noScr [a7, a6, a5, a4, a3, a2, (aR F i)] = true) (hcap : S.1.length + mi.2.2.2.2.2.1 ≤ cap.1 ∧ slz S.1 + mi.2.2.2.2.2.2.1 ≤ cap.2) (hd : Does R x [(aR F i), a2, a3, a4, a5, a6, a7] S (some (aI v)) S') (k : Ev R mth cap sc ret tb pc' loc (aI v :: st) S') : Ev R mth cap sc ret tb pc loc (a7 :: a6 :: a5 :: a4 :: a3 :: a2 :: (aR F i) :: st) S := by subst hp; refine Ev.mk ⟨_, h, ⟨F, i, wk / 10, rfl, hw, rfl⟩, ?_⟩; exact ev_ck (k := Ev R mth cap sc ret tb) (st := (a7 :: a6 :: a5 :: a4 :: a3 :: a2 :: (aR F i) :: st)) (n := 7) hm (Nat.le_add_left _ _) rfl hc hcap hd k
theorem ev_S7L {n x : Nat} {wk : Nat} {z : Int} {tl : List Nat} {mi : MI} {S' : DS} {a1 a2 a3 a4 a5 a6 a7 : AV} {v : Int64} (h : tb pc = some (.invokestatic n, x, 7, wk, z, tl)) (hw : wk < 2) (hp : pc + 3 = pc') (hm : mth x = some mi) (hc : aCats st ≤ 8 ∧ noScr [a7, a6, a5, a4, a3, a2, a1] = true) (hcap : S.1.length + mi.2.2.2.2.2.1 ≤ cap.1 ∧ slz S.1 + mi.2.2.2.2.2.2.1 ≤ cap.2) (hd : Does R x [a1, a2, a3, a4, a5, a6, a7] S (some (aL v)) S') (k : Ev R mth cap sc ret tb pc' loc (aL v :: st) S') : Ev R mth cap sc ret tb pc loc (a7 :: a6 :: a5 :: a4 :: a3 :: a2 :: a1 :: st) S := by subst hp; refine Ev.mk ⟨_, h, ?_⟩; show (if wk = 7 then _ else if wk = 8 then _ else _); rw [if_neg (by omega), if_neg (by omega)]; exact ev_ck (k := Ev R mth cap sc ret tb) (st := (a7 :: a6 :: a5 :: a4 :: a3 :: a2 :: a1 :: st)) (n := 7) hm (Nat.le_add_left _ _) rfl hc hcap hd k
theorem ev_V7L {n x F i : Nat} {wk : Nat} {z : Int} {tl : List Nat} {mi : MI} {S' : DS} {a2 a3 a4 a5 a6 a7 : AV} {v : Int64} (h : tb pc = some (.invokevirtual n, x, 6, wk, z, tl)) (hw : F = wk / 10) (hp : pc + 3 = pc') (hm : mth x = some mi) (hc : aCats st ≤ 8 ∧ noScr [a7, a6, a5, a4, a3, a2, (aR F i)] = true) (hcap : S.1.length + mi.2.2.2.2.2.1 ≤ cap.1 ∧ slz S.1 + mi.2.2.2.2.2.2.1 ≤ cap.2) (hd : Does R x [(aR F i), a2, a3, a4, a5, a6, a7] S (some (aL v)) S') (k : Ev R mth cap sc ret tb pc' loc (aL v :: st) S') : Ev R mth cap sc ret tb pc loc (a7 :: a6 :: a5 :: a4 :: a3 :: a2 :: (aR F i) :: st) S := by subst hp; refine Ev.mk ⟨_, h, ⟨F, i, wk / 10, rfl, hw, rfl⟩, ?_⟩; exact ev_ck (k := Ev R mth cap sc ret tb) (st := (a7 :: a6 :: a5 :: a4 :: a3 :: a2 :: (aR F i) :: st)) (n := 7) hm (Nat.le_add_left _ _) rfl hc hcap hd k
theorem ev_S7R {n x : Nat} {wk : Nat} {z : Int} {tl : List Nat} {mi : MI} {S' : DS} {a1 a2 a3 a4 a5 a6 a7 : AV} {v : Option (Nat × Nat)} (h : tb pc = some (.invokestatic n, x, 7, wk, z, tl)) (hw : wk < 2) (hp : pc + 3 = pc') (hm : mth x = some mi) (hc : aCats st ≤ 8 ∧ noScr [a7, a6, a5, a4, a3, a2, a1] = true) (hcap : S.1.length + mi.2.2.2.2.2.1 ≤ cap.1 ∧ slz S.1 + mi.2.2.2.2.2.2.1 ≤ cap.2) (hd : Does R x [a1, a2, a3, a4, a5, a6, a7] S (some (.inr v)) S') (k : Ev R mth cap sc ret tb pc' loc (.inr v :: st) S') : Ev R mth cap sc ret tb pc loc (a7 :: a6 :: a5 :: a4 :: a3 :: a2 :: a1 :: st) S := by subst hp; refine Ev.mk ⟨_, h, ?_⟩; show (if wk = 7 then _ else if wk = 8 then _ else _); rw [if_neg (by omega), if_neg (by omega)]; exact ev_ck (k := Ev R mth cap sc ret tb) (st := (a7 :: a6 :: a5 :: a4 :: a3 :: a2 :: a1 :: st)) (n := 7) hm (Nat.le_add_left _ _) rfl hc hcap hd k
theorem ev_V7R {n x F i : Nat} {wk : Nat} {z : Int} {tl : List Nat} {mi : MI} {S' : DS} {a2 a3 a4 a5 a6 a7 : AV} {v : Option (Nat × Nat)} (h : tb pc = some (.invokevirtual n, x, 6, wk, z, tl)) (hw : F = wk / 10) (hp : pc + 3 = pc') (hm : mth x = some mi) (hc : aCats st ≤ 8 ∧ noScr [a7, a6, a5, a4, a3, a2, (aR F i)] = true) (hcap : S.1.length + mi.2.2.2.2.2.1 ≤ cap.1 ∧ slz S.1 + mi.2.2.2.2.2.2.1 ≤ cap.2) (hd : Does R x [(aR F i), a2, a3, a4, a5, a6, a7] S (some (.inr v)) S') (k : Ev R mth cap sc ret tb pc' loc (.inr v :: st) S') : Ev R mth cap sc ret tb pc loc (a7 :: a6 :: a5 :: a4 :: a3 :: a2 :: (aR F i) :: st) S := by subst hp; refine Ev.mk ⟨_, h, ⟨F, i, wk / 10, rfl, hw, rfl⟩, ?_⟩; exact ev_ck (k := Ev R mth cap sc ret tb) (st := (a7 :: a6 :: a5 :: a4 :: a3 :: a2 :: (aR F i) :: st)) (n := 7) hm (Nat.le_add_left _ _) rfl hc hcap hd k
end RULES
end
section
/-! the constructors, run; the state behind them in plain words -/
def xB (call : Nat → List AV → DS → Option DS) (cap : Nat × Nat) (tb : Nat → Option Ent) (stop : Nat) : Nat → Nat → List (Option AV) → List AV → DS → Option (List (Option AV) × DS)
  | 0, _, _, _, _ => none
  | n + 1, pc, loc, st, S => bif Nat.beq pc stop && Nat.blt stop 100000 then (match st with | [] => some (loc, S) | _ => none) else match tb pc with
    | none => none
    | some (ins, x, y, w, z, _) => match ins with
      | .aload_n i => match loc[(i : Nat)]? with
        | some (some (.inr v)) => xB call cap tb stop n (pc + 1) loc (.inr v :: st) S
        | _ => none
      | .iload_n i => match loc[(i : Nat)]? with
        | some (some (.inl (.inl v))) => xB call cap tb stop n (pc + 1) loc (aI v :: st) S
        | _ => none
      | .istore_n i => match st with
        | .inl (.inl v) :: r => (match lst1 loc i (aI v) with
          | some l' => xB call cap tb stop n (pc + 1) l' r S
          | none => none)
        | _ => none
      | .astore_n i => match st with
        | .inr v :: r => (match lst1 loc i (.inr v) with
          | some l' => xB call cap tb stop n (pc + 1) l' r S
          | none => none)
        | _ => none
      | .iinc i k => match loc[i]? with
        | some (some (.inl (.inl v))) => (match lst1 loc i (aI (v + Int32.ofInt k)) with
          | some l' => xB call cap tb stop n (pc + 3) l' st S
          | none => none)
        | _ => none
      | .iconst k => xB call cap tb stop n (pc + 1) loc (aI (Int32.ofInt k) :: st) S
      | .bipush k => xB call cap tb stop n (pc + 2) loc (aI (Int8.ofInt k).toInt32 :: st) S
      | .sipush k => xB call cap tb stop n (pc + 3) loc (aI (Int16.ofInt k).toInt32 :: st) S
      | .lconst k => xB call cap tb stop n (pc + 1) loc (aL (Int64.ofNat (k : Nat)) :: st) S
      | .ldc2_w _ => xB call cap tb stop n (pc + 3) loc (aL (Int64.ofInt z) :: st) S
      | .imul => match st with
        | .inl (.inl b) :: .inl (.inl a) :: r => xB call cap tb stop n (pc + 1) loc (aI (a * b) :: r) S
        | _ => none
      | .dup => match st with
        | a :: r => bif Nat.beq (aCat a) 1 then xB call cap tb stop n (pc + 1) loc (a :: a :: r) S else none
        | _ => none
      | .goto _ => xB call cap tb stop n x loc st S
      | .if_icmp c _ => match c, st with
        | .ge, .inl (.inl b) :: .inl (.inl a) :: r => if b ≤ a then xB call cap tb stop n x loc r S else xB call cap tb stop n (pc + 3) loc r S
        | _, _ => none
      | .getfield _ => match st with
        | .inr (some (F, i)) :: r => bif Nat.beq F x then xB call cap tb stop n (pc + 3) loc (rdF S x i y w :: r) S else none
        | _ => none
      | .putfield _ => match st with
        | v :: .inr (some (F, i)) :: r => bif Nat.beq F x then (match wrF S x i y w v with
          | some S' => xB call cap tb stop n (pc + 3) loc r S'
          | none => none) else none
        | _ => none
      | .iastore => match st with
        | .inl (.inl v) :: .inl (.inl k) :: .inr (some (F, i)) :: r => if F / 1000 = 1 ∧ ¬ (k < 0 ∨ F % 1000 ≤ k.toNatClampNeg) then xB call cap tb stop n (pc + 1) loc r (sI S F i k.toNatClampNeg v) else none
        | _ => none
      | .lastore => match st with
        | .inl (.inr v) :: .inl (.inl k) :: .inr (some (F, i)) :: r => if F / 1000 = 2 ∧ ¬ (k < 0 ∨ F % 1000 ≤ k.toNatClampNeg) then xB call cap tb stop n (pc + 1) loc r (sL S F i k.toNatClampNeg v) else none
        | _ => none
      | .aastore => match st with
        | .inr (some (G, u)) :: .inl (.inl k) :: .inr (some (F, i)) :: r => if G = arT F ∧ 3 ≤ F / 1000 ∧ ¬ (k < 0 ∨ F % 1000 ≤ k.toNatClampNeg) then xB call cap tb stop n (pc + 1) loc r (sQ S F i k.toNatClampNeg (some u)) else none
        | _ => none
      | .arraylength => match st with
        | .inr (some (F, _)) :: r => bif Nat.ble 1000 F then xB call cap tb stop n (pc + 1) loc (aI (Int32.ofNat (F % 1000)) :: r) S else none
        | _ => none
      | .new _ => if S.1.length + 1 ≤ cap.1 ∧ slz S.1 + nfT x ≤ cap.2 then xB call cap tb stop n (pc + 3) loc (aR x (cntF S.1 x) :: st) (sNew S x (cntF S.1 x)) else none
      | .newarray _ => match st with
        | .inl (.inl k) :: r => if ¬ k < 0 ∧ k.toNatClampNeg < 1000 ∧ S.1.length + 1 ≤ cap.1 ∧ slz S.1 + k.toNatClampNeg ≤ cap.2 then xB call cap tb stop n (pc + 2) loc (aR (x + k.toNatClampNeg) (cntF S.1 (x + k.toNatClampNeg)) :: r) (sNew S (x + k.toNatClampNeg) (cntF S.1 (x + k.toNatClampNeg))) else none
        | _ => none
      | .anewarray _ => match st with
        | .inl (.inl k) :: r => if ¬ k < 0 ∧ k.toNatClampNeg < 1000 ∧ S.1.length + 1 ≤ cap.1 ∧ slz S.1 + k.toNatClampNeg ≤ cap.2 then xB call cap tb stop n (pc + 3) loc (aR (x + k.toNatClampNeg) (cntF S.1 (x + k.toNatClampNeg)) :: r) (sNew S (x + k.toNatClampNeg) (cntF S.1 (x + k.toNatClampNeg))) else none
        | _ => none
      | .invokespecial _ => if w = 6 then (match st with
          | .inr (some _) :: r => if aCats r ≤ 8 then xB call cap tb stop n (pc + 3) loc r S else none
          | _ => none) else (match st[y]?, mth x with
          | some (.inr (some _)), some mi => if y + 1 ≤ st.length ∧ (aCats (st.drop (y + 1)) ≤ 8 ∧ noScr (st.take (y + 1)) = true) ∧ S.1.length + mi.2.2.2.2.2.1 ≤ cap.1 ∧ slz S.1 + mi.2.2.2.2.2.2.1 ≤ cap.2 then (match call x ((st.take (y + 1)).reverse) S with
            | some S' => xB call cap tb stop n (pc + 3) loc (st.drop (y + 1)) S'
            | none => none) else none
          | _, _ => none)
      | .return_ => bif Nat.beq stop 100000 then (match st with | [] => some (loc, S) | _ => none) else none
      | _ => none
set_option maxHeartbeats 4000000 in
theorem xB.ok {call : Nat → List AV → DS → Option DS} {cap : Nat × Nat} {tb : Nat → Option Ent} {stop : Nat} {R : RC} {sc : Nat × (Nat → Int32)} {ret : Option AV → DS → Prop} {P : KC} (hP : ∀ pc loc st S, Step R mth cap sc ret tb P pc loc st S → P pc loc st S) (hcall : ∀ x as S S', call x as S = some S' → Does R x as S none S') :
    ∀ (n pc : Nat) (loc : List (Option AV)) (st : List AV) (S : DS) (l1 : List (Option AV)) (S1 : DS), xB call cap tb stop n pc loc st S = some (l1, S1) → (stop ≠ 100000 → P stop l1 [] S1) → (stop = 100000 → ret none S1) → P pc loc st S := by
  intro n
  induction n with
  | zero => intro pc loc st S l1 S1 h; cases h
  | succ n ih =>
    intro pc loc st S l1 S1 h h1 h2
    unfold xB at h
    cases hb : Nat.beq pc stop && Nat.blt stop 100000 with
    | true =>
      rw [hb] at h
      rw [Bool.and_eq_true] at hb
      have hpc : pc = stop := Nat.eq_of_beq_eq_true hb.1
      subst hpc
      simp only [cond_true] at h
      split at h
      · cases h
        exact h1 (fun e => by have h9 := hb.2; rw [e] at h9; exact absurd h9 (by decide))
      · cases h
    | false =>
      rw [hb] at h
      simp only [cond_false] at h
      split at h
      · cases h
      · next ins x y w z tl he =>
        refine hP _ _ _ _ ⟨_, he, ?_⟩
        split at h
        · split at h
          · next i9 v9 hl => exact ⟨_, hl, ih _ _ _ _ _ _ h h1 h2⟩
          · cases h
        · split at h
          · next i9 v9 hl => exact ⟨_, hl, ih _ _ _ _ _ _ h h1 h2⟩
          · cases h
        · split at h
          · split at h
            · next l' hl => exact ⟨_, _, l', rfl, hl, ih _ _ _ _ _ _ h h1 h2⟩
            · cases h
          · cases h
        · split at h
          · split at h
            · next l' hl => exact ⟨_, _, l', rfl, hl, ih _ _ _ _ _ _ h h1 h2⟩
            · cases h
          · cases h
        · split at h
          · next hl0 =>
            split at h
            · next l' hl => exact ⟨_, l', hl0, hl, ih _ _ _ _ _ _ h h1 h2⟩
            · cases h
          · cases h
        · exact ih _ _ _ _ _ _ h h1 h2
        · exact ih _ _ _ _ _ _ h h1 h2
        · exact ih _ _ _ _ _ _ h h1 h2
        · exact ih _ _ _ _ _ _ h h1 h2
        · exact ih _ _ _ _ _ _ h h1 h2
        · split at h
          · exact ⟨_, _, _, rfl, ih _ _ _ _ _ _ h h1 h2⟩
          · cases h
        · split at h
          · next a r =>
            cases hc : Nat.beq (aCat a) 1 with
            | true => rw [hc] at h; exact ⟨_, _, rfl, Nat.eq_of_beq_eq_true hc, ih _ _ _ _ _ _ h h1 h2⟩
            | false => rw [hc] at h; cases h
          · cases h
        · exact ih _ _ _ _ _ _ h h1 h2
        · split at h
          · next b a r =>
            refine ⟨a, b, r, rfl, fun hc => ?_, fun hc => ?_⟩
            · rw [if_pos (show b ≤ a from hc)] at h
              exact ih _ _ _ _ _ _ h h1 h2
            · rw [if_neg (show ¬ b ≤ a from hc)] at h
              exact ih _ _ _ _ _ _ h h1 h2
          · cases h
        · split at h
          · next F i r =>
            cases hc : Nat.beq F x with
            | true => rw [hc] at h; have := Nat.eq_of_beq_eq_true hc; subst this; exact ⟨i, r, rfl, ih _ _ _ _ _ _ h h1 h2⟩
            | false => rw [hc] at h; cases h
          · cases h
        · split at h
          · next v F i r =>
            cases hc : Nat.beq F x with
            | true =>
              rw [hc] at h
              have := Nat.eq_of_beq_eq_true hc
              subst this
              simp only [cond_true] at h
              split at h
              · next S' hw => exact ⟨v, i, r, S', rfl, hw, ih _ _ _ _ _ _ h h1 h2⟩
              · cases h
            | false => rw [hc] at h; cases h
          · cases h
        · split at h
          · split at h
            · next hc => exact ⟨_, _, _, _, _, rfl, hc.1, hc.2, ih _ _ _ _ _ _ h h1 h2⟩
            · cases h
          · cases h
        · split at h
          · split at h
            · next hc => exact ⟨_, _, _, _, _, rfl, hc.1, hc.2, ih _ _ _ _ _ _ h h1 h2⟩
            · cases h
          · cases h
        · split at h
          · split at h
            · next hc => obtain ⟨rfl, h5, h6⟩ := hc; exact ⟨_, _, _, _, _, rfl, h5, h6, ih _ _ _ _ _ _ h h1 h2⟩
            · cases h
          · cases h
        · split at h
          · next F i r =>
            cases hc : Nat.ble 1000 F with
            | true => rw [hc] at h; exact Or.inl ⟨F, i, r, rfl, Nat.le_of_ble_eq_true hc, ih _ _ _ _ _ _ h h1 h2⟩
            | false => rw [hc] at h; cases h
          · cases h
        · split at h
          · next hc => exact ⟨hc.1, hc.2, ih _ _ _ _ _ _ h h1 h2⟩
          · cases h
        · split at h
          · split at h
            · next hc => exact ⟨_, _, _, rfl, hc.1, rfl, hc.2.1, hc.2.2.1, hc.2.2.2, ih _ _ _ _ _ _ h h1 h2⟩
            · cases h
          · cases h
        · split at h
          · split at h
            · next hc => exact ⟨_, _, _, rfl, hc.1, rfl, hc.2.1, hc.2.2.1, hc.2.2.2, ih _ _ _ _ _ _ h h1 h2⟩
            · cases h
          · cases h
        · show (if w = 6 then _ else _)
          split at h
          · next hw =>
            rw [if_pos hw]
            split at h
            · next q r =>
              obtain ⟨F, i⟩ := q
              split at h
              · next hc => exact ⟨F, i, r, rfl, hc, ih _ _ _ _ _ _ h h1 h2⟩
              · cases h
            · cases h
          · next hw =>
            rw [if_neg hw]
            split at h
            · next q mi hy hm =>
              obtain ⟨F, i⟩ := q
              split at h
              · next hc =>
                split at h
                · next S' hS' => exact ⟨⟨F, i, hy⟩, ev_ck hm hc.1 rfl hc.2.1 hc.2.2 (hcall _ _ _ _ hS') (ih _ _ _ _ _ _ h h1 h2)⟩
                · cases h
              · cases h
            · cases h
        · cases hc : Nat.beq stop 100000 with
          | true =>
            rw [hc] at h
            simp only [cond_true] at h
            split at h
            · cases h
              exact ⟨rfl, h2 (Nat.eq_of_beq_eq_true hc)⟩
            · cases h
          | false => rw [hc] at h; cases h
        · cases h
def xM : Nat → Nat → List AV → DS → Option DS
  | 0, _, _, _ => none
  | d + 1, j, as, S => match mth j with
    | none => none
    | some mi => if (locG as).length ≤ mi.2.2.1 ∧ mi.2.2.2.1 = none then (match xB (xM d) (capOf mi S) (lkp mi.2.2.2.2.2.2.2.2) 100000 3000 0 (locA mi.2.2.1 as) [] S with
      | some (_, S') => if S'.1.length = (capOf mi S).1 ∧ slz S'.1 = (capOf mi S).2 then some S' else none
      | none => none) else none
theorem xM.ok {d : Nat} : ∀ (j : Nat) (as : List AV) (S S' : DS), xM d j as S = some S' → Does (EvM mth d) j as S none S' := by
  induction d with
  | zero => intro j as S S' h; cases h
  | succ d ih =>
    intro j as S S' h Ψ hΨ
    unfold xM at h
    split at h
    · cases h
    · next mi hm =>
      split at h
      · next hc =>
        split at h
        · next l1 S1 hx =>
          split at h
          · next hn =>
            cases h
            refine ⟨mi, hm, hc.1, ?_⟩
            exact xB.ok (sc := (0, fun _ => 0)) (R := EvM mth d) (ret := retP mi.2.2.2.1 (capOf mi S) Ψ) (fun _ _ _ _ h => Ev.mk h) ih _ _ _ _ _ _ _ hx (fun h9 => absurd rfl h9) (fun _ => ⟨by rw [hc.2]; rfl, hn.1, hn.2, hΨ⟩)
          · cases h
        · cases h
      · cases h
/-- two states with the same picture -/
def celE (S1 S2 : DS) (F i : Nat) : Bool :=
  bif Nat.blt F 1000 then (List.range (nfT F)).all (fun j => decide (rdF S1 F i j (kdT F j) = rdF S2 F i j (kdT F j)))
  else bif Nat.beq (F / 1000) 1 then (List.range (F % 1000)).all (fun j => decide (S1.2.1 F i j = S2.2.1 F i j))
  else bif Nat.beq (F / 1000) 2 then (List.range (F % 1000)).all (fun j => decide (S1.2.2.1 F i j = S2.2.2.1 F i j))
  else (List.range (F % 1000)).all (fun j => decide (S1.2.2.2 F i j = S2.2.2.2 F i j))
theorem arrV_eq {cI : ClassId} {N : Nat} {f g : Nat → Value} (h : ∀ j, j < N → f j = g j) : arrV cI N f = arrV cI N g := by
  unfold arrV
  congr 1
  congr 1
  funext j
  exact h j.val j.isLt
theorem celE.at {D : va_G} {cA : Nat → ClassId} {ad : Nat → Nat → Nat} {S1 S2 : DS} {F i a : Nat} {H : Heap} (h : celE S1 S2 F i = true) (hv : va_at D vwCl (a, cellD cA ad S1 F i) H) : va_at D vwCl (a, cellD cA ad S2 F i) H := by
  unfold celE at h
  by_cases hF : F < 1000
  · rw [show Nat.blt F 1000 = true by simpa [Nat.blt_eq] using hF] at h
    simp only [cond_true, List.all_eq_true, decide_eq_true_eq, List.mem_range] at h
    have e : cellD cA ad S2 F i = cellD cA ad S1 F i := by
      rw [cellD_obj hF, cellD_obj hF]
      congr 2
      refine List.map_congr_left (fun j hj => ?_)
      unfold fvT
      rw [h j (List.mem_range.mp hj)]
    rw [e]
    exact hv
  · rw [show Nat.blt F 1000 = false by cases hb : Nat.blt F 1000 with | false => rfl | true => exact absurd (by simpa [Nat.blt_eq] using hb) hF] at h
    simp only [cond_false] at h
    by_cases h1 : F / 1000 = 1
    · rw [h1] at h
      simp only [show Nat.beq 1 1 = true from rfl, cond_true, List.all_eq_true, decide_eq_true_eq, List.mem_range] at h
      rw [cellD_int h1] at hv ⊢
      show H[a]? = some (vp_cell _ _)
      rw [show vp_cell (cA 1) (F % 1000, .inl (S2.2.1 F i)) = vp_cell (cA 1) (F % 1000, .inl (S1.2.1 F i)) by rw [vp_cell_i, vp_cell_i]; exact arrV_eq (fun j hj => by rw [h j hj])]
      exact hv
    · rw [show Nat.beq (F / 1000) 1 = false by cases hb : Nat.beq (F / 1000) 1 with | false => rfl | true => exact absurd (Nat.eq_of_beq_eq_true hb) h1] at h
      simp only [cond_false] at h
      by_cases h2 : F / 1000 = 2
      · rw [h2] at h
        simp only [show Nat.beq 2 2 = true from rfl, cond_true, List.all_eq_true, decide_eq_true_eq, List.mem_range] at h
        rw [cellD_long h2] at hv ⊢
        show H[a]? = some (vp_cell _ _)
        rw [show vp_cell (cA 2) (F % 1000, .inr (.inl (S2.2.2.1 F i))) = vp_cell (cA 2) (F % 1000, .inr (.inl (S1.2.2.1 F i))) by rw [vp_cell_l, vp_cell_l]; exact arrV_eq (fun j hj => by rw [h j hj])]
        exact hv
      · rw [show Nat.beq (F / 1000) 2 = false by cases hb : Nat.beq (F / 1000) 2 with | false => rfl | true => exact absurd (Nat.eq_of_beq_eq_true hb) h2] at h
        simp only [cond_false, List.all_eq_true, decide_eq_true_eq, List.mem_range] at h
        rw [cellD_ref (by omega)] at hv ⊢
        have e : (fun j => if j < F % 1000 then (S2.2.2.2 F i j).map (ad (arT F)) else none) = (fun j => if j < F % 1000 then (S1.2.2.2 F i j).map (ad (arT F)) else none) := by
          funext j
          by_cases hj : j < F % 1000
          · rw [if_pos hj, if_pos hj, h j hj]
          · rw [if_neg hj, if_neg hj]
        rw [e]
        exact hv
theorem SB_eq {p : Program} {l : Launch} {e : Env} {R : Room} {s : State} {m : MethodId} {args : Array Value} {below : List Frame} {meth : Method} {c : Code} {D : va_G} {cA : Nat → ClassId} {A : Nat → Prop} {H0 : Heap} {scr : Prop} {b : Nat × List (Nat × Nat) × (Nat → Nat → Nat)} {nL : Nat} {c0 : Nat × Nat} {Q : State → Prop} {pc : Nat} {loc : List (Option AV)} {st : List AV} {S1 S2 : DS} (h0 : S2.1 = S1.1) (hV2 : VS S2) (hc : S1.1.all (fun q => celE S1 S2 q.1 q.2) = true) (h : SB p l e R s m args below meth c D cA A H0 scr b nL c0 Q pc loc st S2) : SB p l e R s m args below meth c D cA A H0 scr b nL c0 Q pc loc st S1 := by
  intro ad H locs cells slots ls hP hD hS hV hsc hl hll hvs hvl hcc hcs
  have hw : ∀ k : Nat, ∀ q : Nat × va_E, (wsD cA ad S2)[k]? = some q → ∃ q1, (wsD cA ad S1)[k]? = some q1 ∧ q1.1 = q.1 ∧ va_at D vwCl q H := by
    intro k q hq
    simp only [wsD, List.getElem?_map, Option.map_eq_some_iff] at hq
    obtain ⟨a, ha, rfl⟩ := hq
    rw [h0] at ha
    have h1 : (wsD cA ad S1)[k]? = some (ad a.1 a.2, cellD cA ad S1 a.1 a.2) := by simp [wsD, ha]
    exact ⟨_, h1, rfl, celE.at (List.all_eq_true.mp hc a (List.mem_of_getElem? ha)) (hP k _ h1)⟩
  refine h ad H locs cells slots ls (fun k q hq => (hw k q hq).choose_spec.2.2) ⟨fun i j x y hi hj hxy => ?_, fun k q hq => ?_⟩ hS hV2 (by rw [h0]; exact hsc) hl hll (fun v hv => (hvs v hv).le (fun a ha => by rw [h0]; exact ha)) (fun i v hv => (hvl i v hv).le (fun a ha => by rw [h0]; exact ha)) (by rw [h0]; exact hcc) (by rw [h0]; exact hcs)
  · obtain ⟨x1, a1, a2, -⟩ := hw i x hi
    obtain ⟨y1, b1, b2, -⟩ := hw j y hj
    exact hD.1 i j x1 y1 a1 b1 (a2.trans (hxy.trans b2.symm))
  · obtain ⟨x1, a1, a2, -⟩ := hw k q hq
    rw [← a2]
    exact hD.2 k x1 a1
/-- the cells behind the constructors, in their order -/
def L0 : List (Nat × Nat) := [(6, 0), (0, 0), (1006, 0), (1006, 1), (1, 0), (1012, 0), (1048, 0), (5006, 0), (4008, 0), (5, 0), (5, 1), (5, 2), (5, 3), (5, 4), (5, 5), (4, 0), (4, 1), (4, 2), (4, 3), (4, 4), (4, 5), (4, 6), (4, 7), (2, 0), (1004, 0), (1004, 1), (1004, 2), (1, 1), (1012, 1), (1048, 1), (5006, 1), (4008, 1), (5, 6), (5, 7), (5, 8), (5, 9), (5, 10), (5, 11), (4, 8), (4, 9), (4, 10), (4, 11), (4, 12), (4, 13), (4, 14), (4, 15), (3, 0), (1012, 2), (1012, 3), (1012, 4), (1012, 5), (3003, 0), (1, 2), (1012, 6), (1048, 2), (5006, 2), (4008, 2), (5, 12), (5, 13), (5, 14), (5, 15), (5, 16), (5, 17), (4, 16), (4, 17), (4, 18), (4, 19), (4, 20), (4, 21), (4, 22), (4, 23), (1, 3), (1012, 7), (1048, 3), (5006, 3), (4008, 3), (5, 18), (5, 19), (5, 20), (5, 21), (5, 22), (5, 23), (4, 24), (4, 25), (4, 26), (4, 27), (4, 28), (4, 29), (4, 30), (4, 31), (1, 4), (1012, 8), (1048, 4), (5006, 4), (4008, 4), (5, 24), (5, 25), (5, 26), (5, 27), (5, 28), (5, 29), (4, 32), (4, 33), (4, 34), (4, 35), (4, 36), (4, 37), (4, 38), (4, 39), (7, 0), (2218, 0), (2654, 0), (1006, 2), (1006, 3), (1012, 9), (1012, 10), (1012, 11), (1012, 12), (2022, 0)]
def td (h : Nat) : Nat := if h < 2 then h else h + 4
def q0 (F i j : Nat) : Option Nat :=
  bif Nat.beq F 1 then (bif Nat.beq j 0 then some 0 else bif Nat.beq j 1 then some (td i) else some i)
  else bif Nat.beq F 5006 then some (6 * i + j)
  else bif Nat.beq F 4008 then some (8 * i + j)
  else bif Nat.beq F 0 then some j
  else bif Nat.beq F 6 then some 0
  else bif Nat.beq F 2 then (bif Nat.beq j 0 then some 1 else some (j - 1))
  else bif Nat.beq F 3 then some (j + 2)
  else bif Nat.beq F 3003 then some (j + 2)
  else bif Nat.beq F 7 then (bif Nat.ble j 1 then some 0 else bif Nat.ble j 4 then some (j - 1) else bif Nat.ble j 9 then some (j + 3) else some 0)
  else none
def g0 (F i j : Nat) : Int32 :=
  bif Nat.beq F 1 then (bif Nat.beq j 5 then 2 else bif Nat.beq j 7 then 10 else 0)
  else bif Nat.beq F 1012 then (bif Nat.beq i 0 || (Nat.beq i 1 || (Nat.beq i 6 || (Nat.beq i 7 || Nat.beq i 8))) then 5 else 0)
  else bif Nat.beq F 5 then (bif Nat.beq j 7 then 48 else 0)
  else bif Nat.beq F 4 then (bif Nat.beq j 7 then (-4) else 0)
  else bif Nat.beq F 1004 then (bif Nat.beq i 0 then Int32.ofNat j else 0)
  else bif Nat.beq F 1006 then (bif Nat.beq i 0 || Nat.beq i 2 then 10 * Int32.ofNat j else 0)
  else 0
def w0 (F i j : Nat) : Int64 :=
  bif Nat.beq F 2218 then (bif Nat.blt j 12 then 5 else bif Nat.beq j 60 then 2 else bif Nat.beq j 62 then 10 else 0) else 0
def S0 : DS := (L0, g0, w0, q0)
/-- a state with nothing in it -/
def S00 : DS := ([], (fun _ _ _ => 0), (fun _ _ _ => 0), (fun _ _ _ => none))
/-- the law's first rows, run -/
def SAL : Option (List (Option AV) × DS) := xB (xM 12) (600000, 7302250) (lkp inL.2.2.2.2.2.2.2.2) 18 100 0 (locA 4 [aR 900 0]) [] S00
def SA : DS := (SAL.getD ([], S00)).2
def lawloc : List (Option AV) := [some (aR 900 0), some (aR 6 0), some (aR 7 0), some (aI 0)]
set_option maxRecDepth 100000 in
theorem SAL_ok : SAL.isSome = true := by decide +kernel
set_option maxRecDepth 100000 in
theorem SAL_1 : (SAL.getD ([], S00)).1 = lawloc := by decide +kernel
set_option maxRecDepth 100000 in
theorem SA_L : SA.1 = L0 := by decide +kernel
set_option maxRecDepth 100000 in
theorem SA_eq : SA.1.all (fun q => celE SA S0 q.1 q.2) = true := by decide +kernel
def VSb (S : DS) : Bool := S.1.all (fun q => decide (q.1 < 8 ∨ (1000 ≤ q.1 ∧ q.1 < 6000)) && (decide (q.2 < cntF S.1 q.1) && ((bif Nat.blt q.1 1000 then (List.range (nfT q.1)).all (fun j => match kdT q.1 j with
  | n + 2 => (match S.2.2.2 q.1 q.2 j with
    | some k => decide ((n, k) ∈ S.1)
    | none => true)
  | _ => true) else true) && (bif Nat.ble 3000 q.1 then (List.range (q.1 % 1000)).all (fun j => match S.2.2.2 q.1 q.2 j with
    | some k => decide ((arT q.1, k) ∈ S.1)
    | none => true) else true))))
theorem kdT_lt {F j n : Nat} (h : kdT F j = n + 2) : j < nfT F := by
  unfold kdT at h
  unfold nfT
  refine Nat.lt_of_not_le (fun hle => ?_)
  rw [List.getD_eq_getElem?_getD, List.getElem?_eq_none hle] at h
  cases h
theorem VSb.ok {S : DS} (h : VSb S = true) : VS S := by
  intro q hq
  have h1 := List.all_eq_true.mp h q hq
  simp only [Bool.and_eq_true, decide_eq_true_eq] at h1
  obtain ⟨a1, a2, a3, a4⟩ := h1
  refine ⟨a1, a2, fun j n k g1 g2 g3 => ?_, fun j k g1 g2 g3 => ?_⟩
  · rw [show Nat.blt q.1 1000 = true by simpa [Nat.blt_eq] using g1] at a3
    have h2 := List.all_eq_true.mp a3 j (List.mem_range.mpr (kdT_lt g2))
    rw [g2] at h2
    simp only [g3, decide_eq_true_eq] at h2
    exact h2
  · rw [show Nat.ble 3000 q.1 = true from Nat.ble_eq_true_of_le g1] at a4
    have h2 := List.all_eq_true.mp a4 j (List.mem_range.mpr g2)
    simp only [g3, decide_eq_true_eq] at h2
    exact h2
set_option maxRecDepth 100000 in
theorem S0_VSb : VSb S0 = true := by decide +kernel
theorem VS_congr {S S' : DS} (h : VS S) (h1 : S'.1 = S.1) (h2 : S'.2.2.2 = S.2.2.2) : VS S' := by
  intro q hq
  rw [h1] at hq
  obtain ⟨a1, a2, a3, a4⟩ := h q hq
  rw [h1, h2]
  exact ⟨a1, a2, a3, a4⟩
end
section
/-! THE CLAIM OUT OF ONE WALK OF THE LAW'S BODY. Your part is whole_start (and what it stands on); all else here is the same for every law, but numbers. -/
def R_law : String := "HarbourTugsLaw"
def lw_P (b : Addr) (xs : List Int32) (args : Array Value) (s : State) : Prop := args = #[.ref b] ∧ s.IntsAt b xs ∧ xs.length ≤ 8 ∧ (Jvm.Cond.and given_1 narrow_1).before args s = true
def lw_Q (_ : Array Value) (s : State) (o : Outcome) (t : State) : Prop := o = .returned (some (.int 1)) ∧ Framed s o t [] 600000 7302250
def lw_Z (below : List Frame) (a : Array Value) (s : State) : State → Prop := fun t => ∃ o, t.status = .running ∧ Ended t below o ∧ lw_Q a s o t
/-- the law's own end, with 1 on the stack, nothing written that was there before, its room as the claim has it -/
theorem lw_ret {p : Program} {l : Launch} {e : Env} {s : State} {m : MethodId} {below : List Frame} {meth : Method} {c : Code} {b : Nat} (hx : p.tables.exec = Jvm.exec) (hb : c.code = code) (hr : meth.sig.returnType = ret) (hlocks : meth.locks = false) {pc : Nat} {H : Heap} {ls : Array Slot} (hdg : decode code pc = .ok (.ireturn, 1)) : W p l e room_1 s m #[Value.ref b] below meth c H [] 600000 7302250 (lw_Z below #[Value.ref b] s) (F0 m pc ls [.int 1]) := by
  intro T hT X
  obtain ⟨fs, hret, hrun, hended, hW, hframe⟩ := X.leave (v := some (.int 1)) (hlocks := hlocks) (fun h => by rw [hr] at h; cases h)
  have hmeth' : T.vm.method? m = some meth := X.method'
  refine ⟨T.setFrames fs, ?_, .returned (some (.int 1)), hrun, hended, rfl, ⟨_, rfl⟩, hW, hframe⟩
  jvm_step X.here [X.here.top, hx, hb, hdg, hmeth', hr, ret, narrow_b1]
  (try refine ⟨rfl, ?_⟩); (try refine ⟨rfl, ?_⟩)
  first | (intro acts; rw [hret _ acts rfl rfl rfl]) | rw [hret _ _ rfl rfl rfl]
  exact Steps.refl _
/-- what holds at the law's entry: the machine, the code, the tables' words (any of lw_tbl by 'hts w (by decide +kernel)'), the script of L ints xs at the cell b, what the Statement gives of the start (any of its parts by flat_of_before) -/
def lw_At (p : Program) (s : State) (m : MethodId) (meth : Method) (c : Code) (b L : Nat) (xs : Nat → Int32) : Prop :=
  p.tables.exec = Jvm.exec ∧ c.code = code ∧ meth.sig.returnType = ret ∧ c.maxLocals = 4 ∧ s.vm.findClass R_law = some m.cls ∧ (∀ w ∈ lw_tbl, w.before #[Value.ref b] s = true) ∧ va_X b L xs s s.heap ∧ b < s.heap.size ∧ meth.locks = false ∧ (Jvm.Cond.and given_1 narrow_1).before #[Value.ref b] s = true
-- ===== YOUR PART BEGINS =====
set_option maxRecDepth 100000 in
theorem mem_tbl (n : Nat) {w : Cond} (h : wAt n = some w) : w ∈ lw_tbl := wAt.in h
/-- the law's walk, out of a run of the small machine -/
theorem whole_of {p : Program} {e : Env} {s : State} {m : MethodId} {below : List Frame} {meth : Method} {c : Code} (l : Launch) {b L : Nat} {xs : Nat → Int32} (C0 : lw_At p s m meth c b L xs) (hev : Ev (EvM mth 12) mth (600000, 7302250) (L, xs) (fun v S' => v = some (aI 1) ∧ S'.1.length ≤ 600000 ∧ slz S'.1 ≤ 7302250) (lkp inL.2.2.2.2.2.2.2.2) 18 lawloc [] S0) : W p l e room_1 s m #[Value.ref b] below meth c s.heap [] 0 0 (lw_Z below #[Value.ref b] s) (entryFrame m ([Value.ref b] : List Value).toArray 4) := by
  obtain ⟨hx, hb, hr, hml, hown, htsl, hX, hbl, hlocks, hgv⟩ := id C0
  have hA : ∀ q : Nat, s.heap.size ≤ q → (fun q : Nat => s.heap.size ≤ q) q := fun _ h => h
  have hbA : ¬ (fun q : Nat => s.heap.size ≤ q) b := Nat.not_le.mpr hbl
  have hts : ∀ w ∈ TG, w.before #[Value.ref b] s = true := fun w hw => htsl w (List.mem_filter.mp hw).1
  have hNW : NWs s := ⟨fun a i y h hw => va_Nw.of rfl (htsl _ hw), fun C hw => va_AO.of (htsl _ hw)⟩
  have hcl : ∀ k : Nat, ∃ (cC : ClassId) (iS : Nat → Nat), ∀ q : vw_C, vwCl[k]? = some q → u_Kn s q.1 q.2.1 q.2.2 cC iS := by
    intro k
    cases hq : vwCl[k]? with
    | none => exact ⟨0, fun _ => 0, fun q h => by cases h⟩
    | some q =>
      obtain ⟨hf1, hf2, -⟩ := clsF_all hq
      have hk8 : k < 8 := (List.getElem?_eq_some_iff.mp hq).1
      have hin : ∃ n, Cond.instantiable q.1 n ∈ lw_tbl := by
        match k, hq with
        | 0, hq => cases hq; exact ⟨2, wAt.in (n := 10022) (by decide +kernel)⟩
        | 1, hq => cases hq; exact ⟨16, wAt.in (n := 10038) (by decide +kernel)⟩
        | 2, hq => cases hq; exact ⟨7, wAt.in (n := 10215) (by decide +kernel)⟩
        | 3, hq => cases hq; exact ⟨5, wAt.in (n := 20010) (by decide +kernel)⟩
        | 4, hq => cases hq; exact ⟨9, wAt.in (n := 10099) (by decide +kernel)⟩
        | 5, hq => cases hq; exact ⟨10, wAt.in (n := 10047) (by decide +kernel)⟩
        | 6, hq => cases hq; exact ⟨6, wAt.in (n := 10014) (by decide +kernel)⟩
        | 7, hq => cases hq; exact ⟨18, wAt.in (n := 40048) (by decide +kernel)⟩
        | k + 8, hq => omega
      obtain ⟨n, hn⟩ := hin
      obtain ⟨cC, iS, hKn⟩ := u_known (C := q.1) (T := q.2.1) (N := q.2.2) (n := n) hts hf1 (htsl _ hn)
      exact ⟨cC, iS, fun q' h => by cases h; exact hKn⟩
  obtain ⟨dC, hdC⟩ := Classical.axiomOfChoice hcl
  obtain ⟨dI, hdI⟩ := Classical.axiomOfChoice hdC
  have arrP : ∀ ty : FieldType, (∀ C, ty ≠ .object C) → Cond.arrayClass ty ∈ lw_tbl → ∃ cA : ClassId, ArrOfT s cA ty ∧ va_RA s cA ty := by
    intro ty hty hw
    obtain ⟨cA, kA, comp, h1, h2, h3⟩ := Cond.arrayClass_spec (htsl _ hw)
    refine ⟨cA, fun n z => ⟨fun k h => (by cases h), kA, h2, comp, h3⟩, ?_⟩
    cases ty with
    | object C => exact absurd rfl (hty C)
    | _ => exact h1
  have arrR : ∀ C : String, Cond.arrayOver (.object C) ∈ lw_tbl → ∃ cA : ClassId, ArrOfT s cA (.object C) ∧ va_RA s cA (.object C) := by
    intro C hw
    obtain ⟨comp, cA, kA, h1, h2, h3, h4, h5⟩ := Cond.arrayOver_spec (htsl _ hw)
    exact ⟨cA, fun n z => ⟨fun k h => (by cases h), kA, h3, comp, h4⟩, kA, comp, h3, h4, h1, h5⟩
  obtain ⟨c1, hc1⟩ := arrP .int (fun C h => by cases h) (wAt.in (n := 10036) (by decide +kernel))
  obtain ⟨c2, hc2⟩ := arrP .long (fun C h => by cases h) (wAt.in (n := 40111) (by decide +kernel))
  obtain ⟨c3, hc3⟩ := arrR "HarbourTugs$Harbour" (wAt.in (n := 20032) (by decide +kernel))
  obtain ⟨c4, hc4⟩ := arrR "HarbourTugs$Ship" (wAt.in (n := 10046) (by decide +kernel))
  obtain ⟨c5, hc5⟩ := arrR "HarbourTugs$Tug" (wAt.in (n := 10044) (by decide +kernel))
  have hK : va_K (dC, dI) vwCl (TYS (fun k => if k = 1 then c1 else if k = 2 then c2 else if k = 3 then c3 else if k = 4 then c4 else c5)) s := by
    refine ⟨fun k q hq => hdI k q hq, fun k q hq => ?_⟩
    match k, hq with
    | 0, hq => cases hq; exact hc1
    | 1, hq => cases hq; exact hc2
    | 2, hq => cases hq; exact hc3
    | 3, hq => cases hq; exact hc4
    | 4, hq => cases hq; exact hc5
    | k + 5, hq => simp [TYS] at hq
  have CC : CX p s m #[Value.ref b] meth c room_1 (dC, dI) (fun k => if k = 1 then c1 else if k = 2 then c2 else if k = 3 then c3 else if k = 4 then c4 else c5) (fun q : Nat => s.heap.size ≤ q) s.heap (0, 0) (600000, 7302250) inL := ⟨hx, hb, hml, hown, hts, hNW, fun h => absurd h (by decide +kernel), hK, hA, rfl, rfl, rfl⟩
  have hret9 : ∀ (v : Option AV) (S : DS) (pc : Nat) (ad : Nat → Nat → Nat) (H : Heap) (locs : List Loc) (cells slots : Nat) (ls : Array Slot), decode inL.2.1 pc = .ok (rIns v, 1) → (v = some (aI 1) ∧ S.1.length ≤ 600000 ∧ slz S.1 ≤ 7302250) → va_P (dC, dI) vwCl (wsD (fun k => if k = 1 then c1 else if k = 2 then c2 else if k = 3 then c3 else if k = 4 then c4 else c5) ad S) H → va_D (fun q : Nat => s.heap.size ≤ q) (wsD (fun k => if k = 1 then c1 else if k = 2 then c2 else if k = 3 then c3 else if k = 4 then c4 else c5) ad S) → va_S (fun q : Nat => s.heap.size ≤ q) s.heap H locs → VS S → SCI True (b, [], fun _ _ => b) ad S.1 → (∀ x, v = some x → VA True S x) → cells + (0, 0).1 = S.1.length → slots + (0, 0).2 = slz S.1 → W p l e room_1 s m #[Value.ref b] below meth c H locs cells slots (lw_Z below #[Value.ref b] s) (F0 m pc ls (v.toList.map (cv ad))) := by
    intro v S' pc ad' H locs cells slots ls hdg hv hP1 hD1 hS1 hV1 hsc hvv hcc hcs
    obtain ⟨hv, g1, g2⟩ := hv
    subst hv
    refine va_forget (fun q hq => hS1.2.2 q hq) ?_
    have e1 : cells + 0 = S'.1.length := hcc
    have e2 : slots + 0 = slz S'.1 := hcs
    exact W.widen (k := 600000) (n := 7302250) (by omega) (by omega) (lw_ret hx hb hr hlocks hdg)

  have hstep := sim_step (l := l) (e := e) (below := below) (scr := True) (b := (b, [], fun _ _ => b)) (Q := lw_Z below #[Value.ref b] s) CC (Ctr_all l _ _ cw_all ck_all pl_all rt_all 12) cw_all ckL (sc := (L, xs)) (fun _ => ⟨hX, hbl, hbA⟩) (ret := fun v S' => v = some (aI 1) ∧ S'.1.length ≤ 600000 ∧ slz S'.1 ≤ 7302250) hret9
  have hS0 : SB p l e room_1 s m #[Value.ref b] below meth c (dC, dI) (fun k => if k = 1 then c1 else if k = 2 then c2 else if k = 3 then c3 else if k = 4 then c4 else c5) (fun q : Nat => s.heap.size ≤ q) s.heap True (b, [], fun _ _ => b) inL.2.2.1 (0, 0) (lw_Z below #[Value.ref b] s) 18 lawloc [] S0 := hev _ hstep
  have hSA : SB p l e room_1 s m #[Value.ref b] below meth c (dC, dI) (fun k => if k = 1 then c1 else if k = 2 then c2 else if k = 3 then c3 else if k = 4 then c4 else c5) (fun q : Nat => s.heap.size ≤ q) s.heap True (b, [], fun _ _ => b) inL.2.2.1 (0, 0) (lw_Z below #[Value.ref b] s) 18 lawloc [] SA := SB_eq (show L0 = SA.1 from SA_L.symm) (VSb.ok S0_VSb) SA_eq hS0
  have hSAL : SAL = some (lawloc, SA) := by
    cases hq : SAL with
    | none => have h9 := SAL_ok; rw [hq] at h9; cases h9
    | some q =>
      have e1 : q.1 = lawloc := by have h9 := SAL_1; rw [hq] at h9; exact h9
      have e2 : q.2 = SA := by unfold SA; rw [hq]; rfl
      rw [← e1, ← e2]
  have h1 := xB.ok hstep (fun x as S S' h => xM.ok x as S S' h) _ _ _ _ _ _ _ (show xB (xM 12) (600000, 7302250) (lkp inL.2.2.2.2.2.2.2.2) 18 100 0 (locA 4 [aR 900 0]) [] S00 = some (lawloc, SA) from hSAL) (fun _ => hSA) (fun h9 => absurd h9 (by decide))
  rw [lg_entry_eq]
  exact h1 (fun _ _ => b) s.heap [] 0 0 _ (fun k q h => by simp [wsD, S00] at h) ⟨fun i j p q h => by simp [wsD, S00] at h, fun k q h => by simp [wsD, S00] at h⟩ va_S.rf (fun q hq => by simp [S00] at hq) ⟨fun _ => rfl, ⟨[], rfl⟩, fun _ _ => rfl, rfl⟩ (LV.entry (fun _ _ => b) (as := [aR 900 0]) (by decide)) rfl (fun v hv => by cases hv) (fun i v hi => by
      unfold locA at hi
      by_cases hl9 : i < (locG [aR 900 0]).length
      · rw [List.getElem?_append_left hl9] at hi
        exact locG_va (S := S00) (P := fun S v => VA True S v) (fun v hv => by rw [List.mem_singleton.mp hv]; exact fun a e => by cases e; exact Or.inr ⟨trivial, rfl⟩) i v hi
      · rw [List.getElem?_append_right (by omega)] at hi
        have := List.eq_of_mem_replicate (List.mem_of_getElem? hi)
        cases this) rfl rfl
end
