section
-- ===== PART A: goes FIRST, ahead of the names: the tables' words, and 'selects' of the private methods out of them =====
/-- a private method of a class that the tables say can be made, by its rows of tables_1 -/
def lw_okq (q : MethodName × Nat) : Prop := (q.1.cls ≠ "java/lang/invoke/MethodHandle" ∧ q.1.cls ≠ "java/lang/invoke/VarHandle") ∧ Cond.instantiable q.1.cls q.2 ∈ tables_1 ∧ Cond.privateMethod q.1 ∈ tables_1 ∧ Cond.instanceMethod q.1 ∈ tables_1
theorem lw_p0 : lw_okq (⟨"LastForemost$People", "understand", "()V"⟩, 6) := ⟨⟨by decide +kernel, by decide +kernel⟩, List.mem_of_getElem? (i := 24) (by decide +kernel), List.mem_of_getElem? (i := 308) (by decide +kernel), List.mem_of_getElem? (i := 309) (by decide +kernel)⟩
theorem lw_p1 : lw_okq (⟨"LastForemost$People", "findFault", "()I"⟩, 6) := ⟨⟨by decide +kernel, by decide +kernel⟩, List.mem_of_getElem? (i := 24) (by decide +kernel), List.mem_of_getElem? (i := 312) (by decide +kernel), List.mem_of_getElem? (i := 313) (by decide +kernel)⟩
theorem lw_p2 : lw_okq (⟨"LastForemost$People", "figure", "(I)I"⟩, 6) := ⟨⟨by decide +kernel, by decide +kernel⟩, List.mem_of_getElem? (i := 24) (by decide +kernel), List.mem_of_getElem? (i := 320) (by decide +kernel), List.mem_of_getElem? (i := 321) (by decide +kernel)⟩
theorem lw_p3 : lw_okq (⟨"LastForemost", "dropAnswers", "()V"⟩, 17) := ⟨⟨by decide +kernel, by decide +kernel⟩, List.mem_of_getElem? (i := 16) (by decide +kernel), List.mem_of_getElem? (i := 324) (by decide +kernel), List.mem_of_getElem? (i := 325) (by decide +kernel)⟩
theorem lw_p4 : lw_okq (⟨"LastForemost", "isThere", "(I)Z"⟩, 17) := ⟨⟨by decide +kernel, by decide +kernel⟩, List.mem_of_getElem? (i := 16) (by decide +kernel), List.mem_of_getElem? (i := 344) (by decide +kernel), List.mem_of_getElem? (i := 345) (by decide +kernel)⟩
theorem lw_p5 : lw_okq (⟨"LastForemost", "minuteInside", "(II)I"⟩, 17) := ⟨⟨by decide +kernel, by decide +kernel⟩, List.mem_of_getElem? (i := 16) (by decide +kernel), List.mem_of_getElem? (i := 348) (by decide +kernel), List.mem_of_getElem? (i := 349) (by decide +kernel)⟩
theorem lw_p6 : lw_okq (⟨"LastForemost", "finding", "(I)I"⟩, 17) := ⟨⟨by decide +kernel, by decide +kernel⟩, List.mem_of_getElem? (i := 16) (by decide +kernel), List.mem_of_getElem? (i := 398) (by decide +kernel), List.mem_of_getElem? (i := 399) (by decide +kernel)⟩
theorem lw_p7 : lw_okq (⟨"LastForemost", "seatAll", "()V"⟩, 17) := ⟨⟨by decide +kernel, by decide +kernel⟩, List.mem_of_getElem? (i := 16) (by decide +kernel), List.mem_of_getElem? (i := 406) (by decide +kernel), List.mem_of_getElem? (i := 407) (by decide +kernel)⟩
theorem lw_p8 : lw_okq (⟨"LastForemost", "gather", "()V"⟩, 17) := ⟨⟨by decide +kernel, by decide +kernel⟩, List.mem_of_getElem? (i := 16) (by decide +kernel), List.mem_of_getElem? (i := 410) (by decide +kernel), List.mem_of_getElem? (i := 411) (by decide +kernel)⟩
theorem lw_p9 : lw_okq (⟨"LastForemost", "everybody", "()I"⟩, 17) := ⟨⟨by decide +kernel, by decide +kernel⟩, List.mem_of_getElem? (i := 16) (by decide +kernel), List.mem_of_getElem? (i := 414) (by decide +kernel), List.mem_of_getElem? (i := 415) (by decide +kernel)⟩
theorem lw_p10 : lw_okq (⟨"LastForemost$Church", "takeIn", "(I[II)V"⟩, 6) := ⟨⟨by decide +kernel, by decide +kernel⟩, List.mem_of_getElem? (i := 96) (by decide +kernel), List.mem_of_getElem? (i := 422) (by decide +kernel), List.mem_of_getElem? (i := 423) (by decide +kernel)⟩
theorem lw_p11 : lw_okq (⟨"LastForemost$Church", "loveBeside", "(II)I"⟩, 6) := ⟨⟨by decide +kernel, by decide +kernel⟩, List.mem_of_getElem? (i := 96) (by decide +kernel), List.mem_of_getElem? (i := 449) (by decide +kernel), List.mem_of_getElem? (i := 450) (by decide +kernel)⟩
theorem lw_p12 : lw_okq (⟨"LastForemost", "findRest", "()V"⟩, 17) := ⟨⟨by decide +kernel, by decide +kernel⟩, List.mem_of_getElem? (i := 16) (by decide +kernel), List.mem_of_getElem? (i := 464) (by decide +kernel), List.mem_of_getElem? (i := 465) (by decide +kernel)⟩
theorem lw_p13 : lw_okq (⟨"LastForemost", "waitByRow", "(I)V"⟩, 17) := ⟨⟨by decide +kernel, by decide +kernel⟩, List.mem_of_getElem? (i := 16) (by decide +kernel), List.mem_of_getElem? (i := 472) (by decide +kernel), List.mem_of_getElem? (i := 473) (by decide +kernel)⟩
theorem lw_p14 : lw_okq (⟨"LastForemost$Game", "isStable", "(I)Z"⟩, 8) := ⟨⟨by decide +kernel, by decide +kernel⟩, List.mem_of_getElem? (i := 124) (by decide +kernel), List.mem_of_getElem? (i := 488) (by decide +kernel), List.mem_of_getElem? (i := 489) (by decide +kernel)⟩
theorem lw_p15 : lw_okq (⟨"LastForemost$Game", "wouldLeave", "(II)Z"⟩, 8) := ⟨⟨by decide +kernel, by decide +kernel⟩, List.mem_of_getElem? (i := 124) (by decide +kernel), List.mem_of_getElem? (i := 492) (by decide +kernel), List.mem_of_getElem? (i := 493) (by decide +kernel)⟩
def lw_privs_1 : List (MethodName × Nat) := [(⟨"LastForemost$People", "understand", "()V"⟩, 6), (⟨"LastForemost$People", "findFault", "()I"⟩, 6), (⟨"LastForemost$People", "figure", "(I)I"⟩, 6), (⟨"LastForemost", "dropAnswers", "()V"⟩, 17), (⟨"LastForemost", "isThere", "(I)Z"⟩, 17), (⟨"LastForemost", "minuteInside", "(II)I"⟩, 17), (⟨"LastForemost", "finding", "(I)I"⟩, 17), (⟨"LastForemost", "seatAll", "()V"⟩, 17), (⟨"LastForemost", "gather", "()V"⟩, 17), (⟨"LastForemost", "everybody", "()I"⟩, 17), (⟨"LastForemost$Church", "takeIn", "(I[II)V"⟩, 6), (⟨"LastForemost$Church", "loveBeside", "(II)I"⟩, 6), (⟨"LastForemost", "findRest", "()V"⟩, 17), (⟨"LastForemost", "waitByRow", "(I)V"⟩, 17), (⟨"LastForemost$Game", "isStable", "(I)Z"⟩, 8), (⟨"LastForemost$Game", "wouldLeave", "(II)Z"⟩, 8)]
theorem lw_r1 : ∀ q ∈ lw_privs_1, lw_okq q := List.forall_mem_cons.mpr ⟨lw_p0, List.forall_mem_cons.mpr ⟨lw_p1, List.forall_mem_cons.mpr ⟨lw_p2, List.forall_mem_cons.mpr ⟨lw_p3, List.forall_mem_cons.mpr ⟨lw_p4, List.forall_mem_cons.mpr ⟨lw_p5, List.forall_mem_cons.mpr ⟨lw_p6, List.forall_mem_cons.mpr ⟨lw_p7, List.forall_mem_cons.mpr ⟨lw_p8, List.forall_mem_cons.mpr ⟨lw_p9, List.forall_mem_cons.mpr ⟨lw_p10, List.forall_mem_cons.mpr ⟨lw_p11, List.forall_mem_cons.mpr ⟨lw_p12, List.forall_mem_cons.mpr ⟨lw_p13, List.forall_mem_cons.mpr ⟨lw_p14, List.forall_mem_cons.mpr ⟨lw_p15, fun _ h => absurd h List.not_mem_nil⟩⟩⟩⟩⟩⟩⟩⟩⟩⟩⟩⟩⟩⟩⟩⟩
theorem lw_p16 : lw_okq (⟨"LastForemost", "wouldChange", "(II)Z"⟩, 17) := ⟨⟨by decide +kernel, by decide +kernel⟩, List.mem_of_getElem? (i := 16) (by decide +kernel), List.mem_of_getElem? (i := 500) (by decide +kernel), List.mem_of_getElem? (i := 501) (by decide +kernel)⟩
theorem lw_p17 : lw_okq (⟨"LastForemost", "findChoosing", "()V"⟩, 17) := ⟨⟨by decide +kernel, by decide +kernel⟩, List.mem_of_getElem? (i := 16) (by decide +kernel), List.mem_of_getElem? (i := 516) (by decide +kernel), List.mem_of_getElem? (i := 517) (by decide +kernel)⟩
theorem lw_p18 : lw_okq (⟨"LastForemost", "addFact", "(III)I"⟩, 17) := ⟨⟨by decide +kernel, by decide +kernel⟩, List.mem_of_getElem? (i := 16) (by decide +kernel), List.mem_of_getElem? (i := 524) (by decide +kernel), List.mem_of_getElem? (i := 525) (by decide +kernel)⟩
theorem lw_p19 : lw_okq (⟨"LastForemost", "findOrders", "()V"⟩, 17) := ⟨⟨by decide +kernel, by decide +kernel⟩, List.mem_of_getElem? (i := 16) (by decide +kernel), List.mem_of_getElem? (i := 544) (by decide +kernel), List.mem_of_getElem? (i := 545) (by decide +kernel)⟩
theorem lw_p20 : lw_okq (⟨"LastForemost$Orders", "heed", "(IIII)Z"⟩, 6) := ⟨⟨by decide +kernel, by decide +kernel⟩, List.mem_of_getElem? (i := 182) (by decide +kernel), List.mem_of_getElem? (i := 552) (by decide +kernel), List.mem_of_getElem? (i := 553) (by decide +kernel)⟩
theorem lw_p21 : lw_okq (⟨"LastForemost$Orders", "countWaysTo", "(Z)V"⟩, 6) := ⟨⟨by decide +kernel, by decide +kernel⟩, List.mem_of_getElem? (i := 182) (by decide +kernel), List.mem_of_getElem? (i := 557) (by decide +kernel), List.mem_of_getElem? (i := 558) (by decide +kernel)⟩
theorem lw_p22 : lw_okq (⟨"LastForemost$Orders", "mayCome", "(II)Z"⟩, 6) := ⟨⟨by decide +kernel, by decide +kernel⟩, List.mem_of_getElem? (i := 182) (by decide +kernel), List.mem_of_getElem? (i := 561) (by decide +kernel), List.mem_of_getElem? (i := 562) (by decide +kernel)⟩
theorem lw_p23 : lw_okq (⟨"LastForemost$Orders", "countWaysOn", "()V"⟩, 6) := ⟨⟨by decide +kernel, by decide +kernel⟩, List.mem_of_getElem? (i := 182) (by decide +kernel), List.mem_of_getElem? (i := 571) (by decide +kernel), List.mem_of_getElem? (i := 572) (by decide +kernel)⟩
theorem lw_p24 : lw_okq (⟨"LastForemost$Orders", "canBeFirst", "(II)Z"⟩, 6) := ⟨⟨by decide +kernel, by decide +kernel⟩, List.mem_of_getElem? (i := 182) (by decide +kernel), List.mem_of_getElem? (i := 591) (by decide +kernel), List.mem_of_getElem? (i := 592) (by decide +kernel)⟩
theorem lw_p25 : lw_okq (⟨"LastForemost", "digestPerson", "(JI)J"⟩, 17) := ⟨⟨by decide +kernel, by decide +kernel⟩, List.mem_of_getElem? (i := 16) (by decide +kernel), List.mem_of_getElem? (i := 722) (by decide +kernel), List.mem_of_getElem? (i := 723) (by decide +kernel)⟩
theorem lw_p26 : lw_okq (⟨"LastForemostModel", "met", "(I)I"⟩, 30) := ⟨⟨by decide +kernel, by decide +kernel⟩, List.mem_of_getElem? (i := 740) (by decide +kernel), List.mem_of_getElem? (i := 851) (by decide +kernel), List.mem_of_getElem? (i := 852) (by decide +kernel)⟩
theorem lw_p27 : lw_okq (⟨"LastForemostModel", "lacks", "(III)I"⟩, 30) := ⟨⟨by decide +kernel, by decide +kernel⟩, List.mem_of_getElem? (i := 740) (by decide +kernel), List.mem_of_getElem? (i := 863) (by decide +kernel), List.mem_of_getElem? (i := 864) (by decide +kernel)⟩
theorem lw_p28 : lw_okq (⟨"LastForemostModel", "reads", "()I"⟩, 30) := ⟨⟨by decide +kernel, by decide +kernel⟩, List.mem_of_getElem? (i := 740) (by decide +kernel), List.mem_of_getElem? (i := 892) (by decide +kernel), List.mem_of_getElem? (i := 893) (by decide +kernel)⟩
theorem lw_p29 : lw_okq (⟨"LastForemostModel", "readsPart", "()Z"⟩, 30) := ⟨⟨by decide +kernel, by decide +kernel⟩, List.mem_of_getElem? (i := 740) (by decide +kernel), List.mem_of_getElem? (i := 896) (by decide +kernel), List.mem_of_getElem? (i := 897) (by decide +kernel)⟩
theorem lw_p30 : lw_okq (⟨"LastForemostModel", "figure", "(I)I"⟩, 30) := ⟨⟨by decide +kernel, by decide +kernel⟩, List.mem_of_getElem? (i := 740) (by decide +kernel), List.mem_of_getElem? (i := 900) (by decide +kernel), List.mem_of_getElem? (i := 901) (by decide +kernel)⟩
theorem lw_p31 : lw_okq (⟨"LastForemostModel", "here", "()I"⟩, 30) := ⟨⟨by decide +kernel, by decide +kernel⟩, List.mem_of_getElem? (i := 740) (by decide +kernel), List.mem_of_getElem? (i := 904) (by decide +kernel), List.mem_of_getElem? (i := 905) (by decide +kernel)⟩
def lw_privs_2 : List (MethodName × Nat) := [(⟨"LastForemost", "wouldChange", "(II)Z"⟩, 17), (⟨"LastForemost", "findChoosing", "()V"⟩, 17), (⟨"LastForemost", "addFact", "(III)I"⟩, 17), (⟨"LastForemost", "findOrders", "()V"⟩, 17), (⟨"LastForemost$Orders", "heed", "(IIII)Z"⟩, 6), (⟨"LastForemost$Orders", "countWaysTo", "(Z)V"⟩, 6), (⟨"LastForemost$Orders", "mayCome", "(II)Z"⟩, 6), (⟨"LastForemost$Orders", "countWaysOn", "()V"⟩, 6), (⟨"LastForemost$Orders", "canBeFirst", "(II)Z"⟩, 6), (⟨"LastForemost", "digestPerson", "(JI)J"⟩, 17), (⟨"LastForemostModel", "met", "(I)I"⟩, 30), (⟨"LastForemostModel", "lacks", "(III)I"⟩, 30), (⟨"LastForemostModel", "reads", "()I"⟩, 30), (⟨"LastForemostModel", "readsPart", "()Z"⟩, 30), (⟨"LastForemostModel", "figure", "(I)I"⟩, 30), (⟨"LastForemostModel", "here", "()I"⟩, 30)]
theorem lw_r2 : ∀ q ∈ lw_privs_2, lw_okq q := List.forall_mem_cons.mpr ⟨lw_p16, List.forall_mem_cons.mpr ⟨lw_p17, List.forall_mem_cons.mpr ⟨lw_p18, List.forall_mem_cons.mpr ⟨lw_p19, List.forall_mem_cons.mpr ⟨lw_p20, List.forall_mem_cons.mpr ⟨lw_p21, List.forall_mem_cons.mpr ⟨lw_p22, List.forall_mem_cons.mpr ⟨lw_p23, List.forall_mem_cons.mpr ⟨lw_p24, List.forall_mem_cons.mpr ⟨lw_p25, List.forall_mem_cons.mpr ⟨lw_p26, List.forall_mem_cons.mpr ⟨lw_p27, List.forall_mem_cons.mpr ⟨lw_p28, List.forall_mem_cons.mpr ⟨lw_p29, List.forall_mem_cons.mpr ⟨lw_p30, List.forall_mem_cons.mpr ⟨lw_p31, fun _ h => absurd h List.not_mem_nil⟩⟩⟩⟩⟩⟩⟩⟩⟩⟩⟩⟩⟩⟩⟩⟩
theorem lw_p32 : lw_okq (⟨"LastForemostModel", "nobody", "()I"⟩, 30) := ⟨⟨by decide +kernel, by decide +kernel⟩, List.mem_of_getElem? (i := 740) (by decide +kernel), List.mem_of_getElem? (i := 908) (by decide +kernel), List.mem_of_getElem? (i := 909) (by decide +kernel)⟩
theorem lw_p33 : lw_okq (⟨"LastForemostModel", "isPerson", "(I)Z"⟩, 30) := ⟨⟨by decide +kernel, by decide +kernel⟩, List.mem_of_getElem? (i := 740) (by decide +kernel), List.mem_of_getElem? (i := 916) (by decide +kernel), List.mem_of_getElem? (i := 917) (by decide +kernel)⟩
theorem lw_p34 : lw_okq (⟨"LastForemostModel", "personOf", "(II)I"⟩, 30) := ⟨⟨by decide +kernel, by decide +kernel⟩, List.mem_of_getElem? (i := 740) (by decide +kernel), List.mem_of_getElem? (i := 920) (by decide +kernel), List.mem_of_getElem? (i := 921) (by decide +kernel)⟩
theorem lw_p35 : lw_okq (⟨"LastForemostModel", "goesIn", "(I)I"⟩, 30) := ⟨⟨by decide +kernel, by decide +kernel⟩, List.mem_of_getElem? (i := 740) (by decide +kernel), List.mem_of_getElem? (i := 924) (by decide +kernel), List.mem_of_getElem? (i := 925) (by decide +kernel)⟩
theorem lw_p36 : lw_okq (⟨"LastForemostModel", "wet", "(I)I"⟩, 30) := ⟨⟨by decide +kernel, by decide +kernel⟩, List.mem_of_getElem? (i := 740) (by decide +kernel), List.mem_of_getElem? (i := 931) (by decide +kernel), List.mem_of_getElem? (i := 932) (by decide +kernel)⟩
theorem lw_p37 : lw_okq (⟨"LastForemostModel", "findAll", "()V"⟩, 30) := ⟨⟨by decide +kernel, by decide +kernel⟩, List.mem_of_getElem? (i := 740) (by decide +kernel), List.mem_of_getElem? (i := 976) (by decide +kernel), List.mem_of_getElem? (i := 977) (by decide +kernel)⟩
theorem lw_p38 : lw_okq (⟨"LastForemostModel", "whole", "()I"⟩, 30) := ⟨⟨by decide +kernel, by decide +kernel⟩, List.mem_of_getElem? (i := 740) (by decide +kernel), List.mem_of_getElem? (i := 980) (by decide +kernel), List.mem_of_getElem? (i := 981) (by decide +kernel)⟩
theorem lw_p39 : lw_okq (⟨"LastForemostModel", "findSeats", "(II)V"⟩, 30) := ⟨⟨by decide +kernel, by decide +kernel⟩, List.mem_of_getElem? (i := 740) (by decide +kernel), List.mem_of_getElem? (i := 984) (by decide +kernel), List.mem_of_getElem? (i := 985) (by decide +kernel)⟩
theorem lw_p40 : lw_okq (⟨"LastForemostModel", "isOutside", "(I)Z"⟩, 30) := ⟨⟨by decide +kernel, by decide +kernel⟩, List.mem_of_getElem? (i := 740) (by decide +kernel), List.mem_of_getElem? (i := 991) (by decide +kernel), List.mem_of_getElem? (i := 992) (by decide +kernel)⟩
theorem lw_p41 : lw_okq (⟨"LastForemostModel", "whoOf", "(I)I"⟩, 30) := ⟨⟨by decide +kernel, by decide +kernel⟩, List.mem_of_getElem? (i := 740) (by decide +kernel), List.mem_of_getElem? (i := 999) (by decide +kernel), List.mem_of_getElem? (i := 1000) (by decide +kernel)⟩
theorem lw_p42 : lw_okq (⟨"LastForemostModel", "hasOf", "(I)I"⟩, 30) := ⟨⟨by decide +kernel, by decide +kernel⟩, List.mem_of_getElem? (i := 740) (by decide +kernel), List.mem_of_getElem? (i := 1007) (by decide +kernel), List.mem_of_getElem? (i := 1008) (by decide +kernel)⟩
theorem lw_p43 : lw_okq (⟨"LastForemostModel", "hasNow", "(II)I"⟩, 30) := ⟨⟨by decide +kernel, by decide +kernel⟩, List.mem_of_getElem? (i := 740) (by decide +kernel), List.mem_of_getElem? (i := 1011) (by decide +kernel), List.mem_of_getElem? (i := 1012) (by decide +kernel)⟩
theorem lw_p44 : lw_okq (⟨"LastForemostModel", "worth", "(II)I"⟩, 30) := ⟨⟨by decide +kernel, by decide +kernel⟩, List.mem_of_getElem? (i := 740) (by decide +kernel), List.mem_of_getElem? (i := 1015) (by decide +kernel), List.mem_of_getElem? (i := 1016) (by decide +kernel)⟩
theorem lw_p45 : lw_okq (⟨"LastForemostModel", "bestOf", "(II)I"⟩, 30) := ⟨⟨by decide +kernel, by decide +kernel⟩, List.mem_of_getElem? (i := 740) (by decide +kernel), List.mem_of_getElem? (i := 1026) (by decide +kernel), List.mem_of_getElem? (i := 1027) (by decide +kernel)⟩
theorem lw_p46 : lw_okq (⟨"LastForemostModel", "restOf", "(I)I"⟩, 30) := ⟨⟨by decide +kernel, by decide +kernel⟩, List.mem_of_getElem? (i := 740) (by decide +kernel), List.mem_of_getElem? (i := 1035) (by decide +kernel), List.mem_of_getElem? (i := 1036) (by decide +kernel)⟩
theorem lw_p47 : lw_okq (⟨"LastForemostModel", "findRest", "()V"⟩, 30) := ⟨⟨by decide +kernel, by decide +kernel⟩, List.mem_of_getElem? (i := 740) (by decide +kernel), List.mem_of_getElem? (i := 1039) (by decide +kernel), List.mem_of_getElem? (i := 1040) (by decide +kernel)⟩
def lw_privs_3 : List (MethodName × Nat) := [(⟨"LastForemostModel", "nobody", "()I"⟩, 30), (⟨"LastForemostModel", "isPerson", "(I)Z"⟩, 30), (⟨"LastForemostModel", "personOf", "(II)I"⟩, 30), (⟨"LastForemostModel", "goesIn", "(I)I"⟩, 30), (⟨"LastForemostModel", "wet", "(I)I"⟩, 30), (⟨"LastForemostModel", "findAll", "()V"⟩, 30), (⟨"LastForemostModel", "whole", "()I"⟩, 30), (⟨"LastForemostModel", "findSeats", "(II)V"⟩, 30), (⟨"LastForemostModel", "isOutside", "(I)Z"⟩, 30), (⟨"LastForemostModel", "whoOf", "(I)I"⟩, 30), (⟨"LastForemostModel", "hasOf", "(I)I"⟩, 30), (⟨"LastForemostModel", "hasNow", "(II)I"⟩, 30), (⟨"LastForemostModel", "worth", "(II)I"⟩, 30), (⟨"LastForemostModel", "bestOf", "(II)I"⟩, 30), (⟨"LastForemostModel", "restOf", "(I)I"⟩, 30), (⟨"LastForemostModel", "findRest", "()V"⟩, 30)]
theorem lw_r3 : ∀ q ∈ lw_privs_3, lw_okq q := List.forall_mem_cons.mpr ⟨lw_p32, List.forall_mem_cons.mpr ⟨lw_p33, List.forall_mem_cons.mpr ⟨lw_p34, List.forall_mem_cons.mpr ⟨lw_p35, List.forall_mem_cons.mpr ⟨lw_p36, List.forall_mem_cons.mpr ⟨lw_p37, List.forall_mem_cons.mpr ⟨lw_p38, List.forall_mem_cons.mpr ⟨lw_p39, List.forall_mem_cons.mpr ⟨lw_p40, List.forall_mem_cons.mpr ⟨lw_p41, List.forall_mem_cons.mpr ⟨lw_p42, List.forall_mem_cons.mpr ⟨lw_p43, List.forall_mem_cons.mpr ⟨lw_p44, List.forall_mem_cons.mpr ⟨lw_p45, List.forall_mem_cons.mpr ⟨lw_p46, List.forall_mem_cons.mpr ⟨lw_p47, fun _ h => absurd h List.not_mem_nil⟩⟩⟩⟩⟩⟩⟩⟩⟩⟩⟩⟩⟩⟩⟩⟩
theorem lw_p48 : lw_okq (⟨"LastForemostModel", "rests", "()Z"⟩, 30) := ⟨⟨by decide +kernel, by decide +kernel⟩, List.mem_of_getElem? (i := 740) (by decide +kernel), List.mem_of_getElem? (i := 1043) (by decide +kernel), List.mem_of_getElem? (i := 1044) (by decide +kernel)⟩
theorem lw_p49 : lw_okq (⟨"LastForemostModel", "wouldChange", "(II)Z"⟩, 30) := ⟨⟨by decide +kernel, by decide +kernel⟩, List.mem_of_getElem? (i := 740) (by decide +kernel), List.mem_of_getElem? (i := 1051) (by decide +kernel), List.mem_of_getElem? (i := 1052) (by decide +kernel)⟩
theorem lw_p50 : lw_okq (⟨"LastForemostModel", "changesNow", "()I"⟩, 30) := ⟨⟨by decide +kernel, by decide +kernel⟩, List.mem_of_getElem? (i := 740) (by decide +kernel), List.mem_of_getElem? (i := 1059) (by decide +kernel), List.mem_of_getElem? (i := 1060) (by decide +kernel)⟩
theorem lw_p51 : lw_okq (⟨"LastForemostModel", "churchesOf", "(I)I"⟩, 30) := ⟨⟨by decide +kernel, by decide +kernel⟩, List.mem_of_getElem? (i := 740) (by decide +kernel), List.mem_of_getElem? (i := 1067) (by decide +kernel), List.mem_of_getElem? (i := 1068) (by decide +kernel)⟩
theorem lw_p52 : lw_okq (⟨"LastForemostModel", "hasIn", "(II)I"⟩, 30) := ⟨⟨by decide +kernel, by decide +kernel⟩, List.mem_of_getElem? (i := 740) (by decide +kernel), List.mem_of_getElem? (i := 1071) (by decide +kernel), List.mem_of_getElem? (i := 1072) (by decide +kernel)⟩
theorem lw_p53 : lw_okq (⟨"LastForemostModel", "tells", "(III)I"⟩, 30) := ⟨⟨by decide +kernel, by decide +kernel⟩, List.mem_of_getElem? (i := 740) (by decide +kernel), List.mem_of_getElem? (i := 1079) (by decide +kernel), List.mem_of_getElem? (i := 1080) (by decide +kernel)⟩
theorem lw_p54 : lw_okq (⟨"LastForemostModel", "cameOf", "(I)I"⟩, 30) := ⟨⟨by decide +kernel, by decide +kernel⟩, List.mem_of_getElem? (i := 740) (by decide +kernel), List.mem_of_getElem? (i := 1095) (by decide +kernel), List.mem_of_getElem? (i := 1096) (by decide +kernel)⟩
theorem lw_p55 : lw_okq (⟨"LastForemostModel", "findOrders", "()V"⟩, 30) := ⟨⟨by decide +kernel, by decide +kernel⟩, List.mem_of_getElem? (i := 740) (by decide +kernel), List.mem_of_getElem? (i := 1099) (by decide +kernel), List.mem_of_getElem? (i := 1100) (by decide +kernel)⟩
theorem lw_p56 : lw_okq (⟨"LastForemostModel", "looks", "()V"⟩, 30) := ⟨⟨by decide +kernel, by decide +kernel⟩, List.mem_of_getElem? (i := 740) (by decide +kernel), List.mem_of_getElem? (i := 1103) (by decide +kernel), List.mem_of_getElem? (i := 1104) (by decide +kernel)⟩
theorem lw_p57 : lw_okq (⟨"LastForemostModel", "isSo", "()Z"⟩, 30) := ⟨⟨by decide +kernel, by decide +kernel⟩, List.mem_of_getElem? (i := 740) (by decide +kernel), List.mem_of_getElem? (i := 1107) (by decide +kernel), List.mem_of_getElem? (i := 1108) (by decide +kernel)⟩
theorem lw_p58 : lw_okq (⟨"LastForemostModel", "goesOn", "()Z"⟩, 30) := ⟨⟨by decide +kernel, by decide +kernel⟩, List.mem_of_getElem? (i := 740) (by decide +kernel), List.mem_of_getElem? (i := 1111) (by decide +kernel), List.mem_of_getElem? (i := 1112) (by decide +kernel)⟩
theorem lw_p59 : lw_okq (⟨"LastForemostModel", "swaps", "(II)V"⟩, 30) := ⟨⟨by decide +kernel, by decide +kernel⟩, List.mem_of_getElem? (i := 740) (by decide +kernel), List.mem_of_getElem? (i := 1115) (by decide +kernel), List.mem_of_getElem? (i := 1116) (by decide +kernel)⟩
theorem lw_p60 : lw_okq (⟨"LastForemostModel", "sureNow", "()I"⟩, 30) := ⟨⟨by decide +kernel, by decide +kernel⟩, List.mem_of_getElem? (i := 740) (by decide +kernel), List.mem_of_getElem? (i := 1123) (by decide +kernel), List.mem_of_getElem? (i := 1124) (by decide +kernel)⟩
theorem lw_p61 : lw_okq (⟨"LastForemostModel", "fairOf", "(II)J"⟩, 30) := ⟨⟨by decide +kernel, by decide +kernel⟩, List.mem_of_getElem? (i := 740) (by decide +kernel), List.mem_of_getElem? (i := 1131) (by decide +kernel), List.mem_of_getElem? (i := 1132) (by decide +kernel)⟩
theorem lw_p62 : lw_okq (⟨"LastForemostModel", "lotOf", "(II)I"⟩, 30) := ⟨⟨by decide +kernel, by decide +kernel⟩, List.mem_of_getElem? (i := 740) (by decide +kernel), List.mem_of_getElem? (i := 1146) (by decide +kernel), List.mem_of_getElem? (i := 1147) (by decide +kernel)⟩
theorem lw_p63 : lw_okq (⟨"LastForemostModel", "allLateOf", "(I)J"⟩, 30) := ⟨⟨by decide +kernel, by decide +kernel⟩, List.mem_of_getElem? (i := 740) (by decide +kernel), List.mem_of_getElem? (i := 1163) (by decide +kernel), List.mem_of_getElem? (i := 1164) (by decide +kernel)⟩
def lw_privs_4 : List (MethodName × Nat) := [(⟨"LastForemostModel", "rests", "()Z"⟩, 30), (⟨"LastForemostModel", "wouldChange", "(II)Z"⟩, 30), (⟨"LastForemostModel", "changesNow", "()I"⟩, 30), (⟨"LastForemostModel", "churchesOf", "(I)I"⟩, 30), (⟨"LastForemostModel", "hasIn", "(II)I"⟩, 30), (⟨"LastForemostModel", "tells", "(III)I"⟩, 30), (⟨"LastForemostModel", "cameOf", "(I)I"⟩, 30), (⟨"LastForemostModel", "findOrders", "()V"⟩, 30), (⟨"LastForemostModel", "looks", "()V"⟩, 30), (⟨"LastForemostModel", "isSo", "()Z"⟩, 30), (⟨"LastForemostModel", "goesOn", "()Z"⟩, 30), (⟨"LastForemostModel", "swaps", "(II)V"⟩, 30), (⟨"LastForemostModel", "sureNow", "()I"⟩, 30), (⟨"LastForemostModel", "fairOf", "(II)J"⟩, 30), (⟨"LastForemostModel", "lotOf", "(II)I"⟩, 30), (⟨"LastForemostModel", "allLateOf", "(I)J"⟩, 30)]
theorem lw_r4 : ∀ q ∈ lw_privs_4, lw_okq q := List.forall_mem_cons.mpr ⟨lw_p48, List.forall_mem_cons.mpr ⟨lw_p49, List.forall_mem_cons.mpr ⟨lw_p50, List.forall_mem_cons.mpr ⟨lw_p51, List.forall_mem_cons.mpr ⟨lw_p52, List.forall_mem_cons.mpr ⟨lw_p53, List.forall_mem_cons.mpr ⟨lw_p54, List.forall_mem_cons.mpr ⟨lw_p55, List.forall_mem_cons.mpr ⟨lw_p56, List.forall_mem_cons.mpr ⟨lw_p57, List.forall_mem_cons.mpr ⟨lw_p58, List.forall_mem_cons.mpr ⟨lw_p59, List.forall_mem_cons.mpr ⟨lw_p60, List.forall_mem_cons.mpr ⟨lw_p61, List.forall_mem_cons.mpr ⟨lw_p62, List.forall_mem_cons.mpr ⟨lw_p63, fun _ h => absurd h List.not_mem_nil⟩⟩⟩⟩⟩⟩⟩⟩⟩⟩⟩⟩⟩⟩⟩⟩
theorem lw_p64 : lw_okq (⟨"LastForemostModel", "pews", "()I"⟩, 30) := ⟨⟨by decide +kernel, by decide +kernel⟩, List.mem_of_getElem? (i := 740) (by decide +kernel), List.mem_of_getElem? (i := 1175) (by decide +kernel), List.mem_of_getElem? (i := 1176) (by decide +kernel)⟩
def lw_privs_5 : List (MethodName × Nat) := [(⟨"LastForemostModel", "pews", "()I"⟩, 30)]
theorem lw_r5 : ∀ q ∈ lw_privs_5, lw_okq q := List.forall_mem_cons.mpr ⟨lw_p64, fun _ h => absurd h List.not_mem_nil⟩
def lw_privs : List (MethodName × Nat) := lw_privs_1 ++ (lw_privs_2 ++ (lw_privs_3 ++ (lw_privs_4 ++ (lw_privs_5))))
def lw_tbl : List Cond := k2_sels lw_privs ++ tables_1
theorem lw_privs_ok : ∀ q ∈ lw_privs, lw_okq q := by
  show ∀ q ∈ lw_privs_1 ++ (lw_privs_2 ++ (lw_privs_3 ++ (lw_privs_4 ++ (lw_privs_5)))), lw_okq q
  exact List.forall_mem_append.mpr ⟨lw_r1, List.forall_mem_append.mpr ⟨lw_r2, List.forall_mem_append.mpr ⟨lw_r3, List.forall_mem_append.mpr ⟨lw_r4, lw_r5⟩⟩⟩⟩
end
section
-- names of classes, fields and methods, out of the printed names of this claim
/-! ===== BEGIN words of one list among another's, by their places ===== -/
theorem goodIn_r {big : List Cond} (ws : List Cond) (ps : List Nat) (hp : ws = ps.filterMap (fun i => big[i]?)) (h : ws.all goodWord = true) : GoodIn big ws := by
  intro w hw
  have h1 := List.all_eq_true.mp h w hw
  rw [hp] at hw
  obtain ⟨i, -, hi⟩ := List.mem_filterMap.mp hw
  have hm : w ∈ big := by first | exact List.mem_of_getElem? hi | exact List.getElem?_mem hi
  exact ⟨hm, good_of_word h1⟩
theorem goodIn_app {big a b : List Cond} (ha : GoodIn big a) (hb : GoodIn big b) : GoodIn big (a ++ b) := fun w h => (List.mem_append.mp h).elim (ha w) (hb w)
theorem goodIn_ca {big a b : List Cond} {c : Cond} (ha : GoodIn big (c :: a)) (hb : GoodIn big b) : GoodIn big (c :: (a ++ b)) := fun w h => (List.mem_cons.mp h).elim (fun e => ha w (List.mem_cons.mpr (Or.inl e))) (fun h => (List.mem_append.mp h).elim (fun h => ha w (List.mem_cons.mpr (Or.inr h))) (hb w))
theorem goodIn_sub {big ws : List Cond} (hm : ∀ w ∈ ws, w ∈ big) (h : ws.all goodWord = true) : GoodIn big ws := fun w hw => ⟨hm w hw, good_of_word (List.all_eq_true.mp h w hw)⟩
/-! ===== END ===== -/

def RX0 : String := "LastForemost$Church"
def TX0 : u_T := fun k => match k with
  | 0 => ("LastForemost$Church", "people", "LLastForemost$People;", true)
  | 1 => ("LastForemost$Church", "rain", "LLastForemost$Rain;", true)
  | 2 => ("LastForemost$Church", "rules", "LLastForemost$Rules;", true)
  | 3 => ("LastForemost$Church", "seats", "[I", true)
  | 4 => ("LastForemost$Church", "sitters", "[I", true)
  | _ => ("LastForemost$Church", "taken", "I", false)
def tyX0 : Nat → FieldType := fun k => match k with
  | 0 => .object "LastForemost$People"
  | 1 => .object "LastForemost$Rain"
  | 2 => .object "LastForemost$Rules"
  | 3 => .array .int
  | 4 => .array .int
  | _ => .int
abbrev wsX00 : List Cond := u_ws RX0 TX0 6
theorem nmX0 : ∀ a, a < 6 → ∀ b, b < 6 → a ≠ b → (TX0 a).2.1 ≠ (TX0 b).2.1 := by decide +kernel
theorem tyX0_ok : ∀ k, k < 6 → parseFieldDescriptor (TX0 k).2.2.1 = some (tyX0 k) := by decide +kernel
abbrev cX0_init : ByteArray := prog_2_method_1_code
def yX0_init : MethodName := ⟨RX0, "<init>", "(LLastForemost$People;LLastForemost$Rain;LLastForemost$Rules;)V"⟩
abbrev cX0_fill : ByteArray := prog_2_method_2_code
def yX0_fill : MethodName := ⟨RX0, "fill", "([III)V"⟩
abbrev cX0_takeIn : ByteArray := prog_2_method_3_code
def yX0_takeIn : MethodName := ⟨RX0, "takeIn", "(I[II)V"⟩
abbrev cX0_movesUp : ByteArray := prog_2_method_4_code
def yX0_movesUp : MethodName := ⟨RX0, "movesUp", "(III)Z"⟩
abbrev cX0_worth : ByteArray := prog_2_method_5_code
def yX0_worth : MethodName := ⟨RX0, "worth", "(II)I"⟩
abbrev cX0_loveBeside : ByteArray := prog_2_method_6_code
def yX0_loveBeside : MethodName := ⟨RX0, "loveBeside", "(II)I"⟩
abbrev cX0_swap : ByteArray := prog_2_method_7_code
def yX0_swap : MethodName := ⟨RX0, "swap", "(II)V"⟩
abbrev cX0_pewsTaken : ByteArray := prog_2_method_8_code
def yX0_pewsTaken : MethodName := ⟨RX0, "pewsTaken", "()I"⟩
def RX1 : String := "LastForemost$Facts"
def TX1 : u_T := fun k => match k with
  | 0 => ("LastForemost$Facts", "kinds", "[I", true)
  | 1 => ("LastForemost$Facts", "persons", "[I", true)
  | 2 => ("LastForemost$Facts", "others", "[I", true)
  | _ => ("LastForemost$Facts", "size", "I", false)
def tyX1 : Nat → FieldType := fun k => match k with
  | 0 => .array .int
  | 1 => .array .int
  | 2 => .array .int
  | _ => .int
abbrev wsX10 : List Cond := u_ws RX1 TX1 4
theorem nmX1 : ∀ a, a < 4 → ∀ b, b < 4 → a ≠ b → (TX1 a).2.1 ≠ (TX1 b).2.1 := by decide +kernel
theorem tyX1_ok : ∀ k, k < 4 → parseFieldDescriptor (TX1 k).2.2.1 = some (tyX1 k) := by decide +kernel
abbrev cX1_init : ByteArray := prog_3_method_1_code
def yX1_init : MethodName := ⟨RX1, "<init>", "()V"⟩
abbrev cX1_add : ByteArray := prog_3_method_2_code
def yX1_add : MethodName := ⟨RX1, "add", "(III)V"⟩
def RX2 : String := "LastForemost$Game"
def TX2 : u_T := fun k => match k with
  | 0 => ("LastForemost$Game", "bits", "I", true)
  | 1 => ("LastForemost$Game", "lastChoice", "I", true)
  | 2 => ("LastForemost$Game", "shifts", "[I", true)
  | 3 => ("LastForemost$Game", "players", "I", false)
  | 4 => ("LastForemost$Game", "worths", "[I", false)
  | 5 => ("LastForemost$Game", "rows", "I", false)
  | 6 => ("LastForemost$Game", "stableRows", "I", false)
  | _ => ("LastForemost$Game", "firstStable", "I", false)
def tyX2 : Nat → FieldType := fun k => match k with
  | 0 => .int
  | 1 => .int
  | 2 => .array .int
  | 3 => .int
  | 4 => .array .int
  | 5 => .int
  | 6 => .int
  | _ => .int
abbrev wsX20 : List Cond := u_ws RX2 TX2 8
theorem nmX2 : ∀ a, a < 8 → ∀ b, b < 8 → a ≠ b → (TX2 a).2.1 ≠ (TX2 b).2.1 := by decide +kernel
theorem tyX2_ok : ∀ k, k < 8 → parseFieldDescriptor (TX2 k).2.2.1 = some (tyX2 k) := by decide +kernel
abbrev cX2_init : ByteArray := prog_4_method_1_code
def yX2_init : MethodName := ⟨RX2, "<init>", "(I)V"⟩
abbrev cX2_open : ByteArray := prog_4_method_2_code
def yX2_open : MethodName := ⟨RX2, "open", "(IZ)V"⟩
abbrev cX2_choice : ByteArray := prog_4_method_3_code
def yX2_choice : MethodName := ⟨RX2, "choice", "(II)I"⟩
abbrev cX2_note : ByteArray := prog_4_method_4_code
def yX2_note : MethodName := ⟨RX2, "note", "(III)V"⟩
abbrev cX2_settle : ByteArray := prog_4_method_5_code
def yX2_settle : MethodName := ⟨RX2, "settle", "()V"⟩
abbrev cX2_isStable : ByteArray := prog_4_method_6_code
def yX2_isStable : MethodName := ⟨RX2, "isStable", "(I)Z"⟩
abbrev cX2_wouldLeave : ByteArray := prog_4_method_7_code
def yX2_wouldLeave : MethodName := ⟨RX2, "wouldLeave", "(II)Z"⟩
def RX3 : String := "LastForemost$Orders"
def TX3 : u_T := fun k => match k with
  | 0 => ("LastForemost$Orders", "waysTo", "[I", true)
  | 1 => ("LastForemost$Orders", "waysOn", "[I", true)
  | 2 => ("LastForemost$Orders", "ahead", "[I", true)
  | 3 => ("LastForemost$Orders", "places", "[I", true)
  | 4 => ("LastForemost$Orders", "n", "I", false)
  | _ => ("LastForemost$Orders", "all", "I", false)
def tyX3 : Nat → FieldType := fun k => match k with
  | 0 => .array .int
  | 1 => .array .int
  | 2 => .array .int
  | 3 => .array .int
  | 4 => .int
  | _ => .int
abbrev wsX30 : List Cond := u_ws RX3 TX3 6
theorem nmX3 : ∀ a, a < 6 → ∀ b, b < 6 → a ≠ b → (TX3 a).2.1 ≠ (TX3 b).2.1 := by decide +kernel
theorem tyX3_ok : ∀ k, k < 6 → parseFieldDescriptor (TX3 k).2.2.1 = some (tyX3 k) := by decide +kernel
abbrev cX3_init : ByteArray := prog_5_method_1_code
def yX3_init : MethodName := ⟨RX3, "<init>", "()V"⟩
abbrev cX3_find : ByteArray := prog_5_method_2_code
def yX3_find : MethodName := ⟨RX3, "find", "(LLastForemost$Facts;II)V"⟩
abbrev cX3_heed : ByteArray := prog_5_method_3_code
def yX3_heed : MethodName := ⟨RX3, "heed", "(IIII)Z"⟩
abbrev cX3_mayCome : ByteArray := prog_5_method_4_code
def yX3_mayCome : MethodName := ⟨RX3, "mayCome", "(II)Z"⟩
abbrev cX3_countWaysTo : ByteArray := prog_5_method_5_code
def yX3_countWaysTo : MethodName := ⟨RX3, "countWaysTo", "(Z)V"⟩
abbrev cX3_countWaysOn : ByteArray := prog_5_method_6_code
def yX3_countWaysOn : MethodName := ⟨RX3, "countWaysOn", "()V"⟩
abbrev cX3_howMany : ByteArray := prog_5_method_7_code
def yX3_howMany : MethodName := ⟨RX3, "howMany", "()I"⟩
abbrev cX3_placesOf : ByteArray := prog_5_method_8_code
def yX3_placesOf : MethodName := ⟨RX3, "placesOf", "(I)I"⟩
abbrev cX3_surePairs : ByteArray := prog_5_method_9_code
def yX3_surePairs : MethodName := ⟨RX3, "surePairs", "()I"⟩
abbrev cX3_canBeFirst : ByteArray := prog_5_method_10_code
def yX3_canBeFirst : MethodName := ⟨RX3, "canBeFirst", "(II)Z"⟩
def RX4 : String := "LastForemost$People"
def TX4 : u_T := fun k => match k with
  | 0 => ("LastForemost$People", "text", "[I", true)
  | 1 => ("LastForemost$People", "minutes", "[I", true)
  | 2 => ("LastForemost$People", "wishes", "[I", true)
  | 3 => ("LastForemost$People", "length", "I", false)
  | 4 => ("LastForemost$People", "count", "I", false)
  | _ => ("LastForemost$People", "faultPlace", "I", false)
def tyX4 : Nat → FieldType := fun k => match k with
  | 0 => .array .int
  | 1 => .array .int
  | 2 => .array .int
  | 3 => .int
  | 4 => .int
  | _ => .int
abbrev wsX40 : List Cond := u_ws RX4 TX4 6
theorem nmX4 : ∀ a, a < 6 → ∀ b, b < 6 → a ≠ b → (TX4 a).2.1 ≠ (TX4 b).2.1 := by decide +kernel
theorem tyX4_ok : ∀ k, k < 6 → parseFieldDescriptor (TX4 k).2.2.1 = some (tyX4 k) := by decide +kernel
abbrev cX4_init : ByteArray := prog_6_method_1_code
def yX4_init : MethodName := ⟨RX4, "<init>", "()V"⟩
abbrev cX4_append : ByteArray := prog_6_method_2_code
def yX4_append : MethodName := ⟨RX4, "append", "(I)V"⟩
abbrev cX4_clear : ByteArray := prog_6_method_3_code
def yX4_clear : MethodName := ⟨RX4, "clear", "()V"⟩
abbrev cX4_understand : ByteArray := prog_6_method_4_code
def yX4_understand : MethodName := ⟨RX4, "understand", "()V"⟩
abbrev cX4_findFault : ByteArray := prog_6_method_5_code
def yX4_findFault : MethodName := ⟨RX4, "findFault", "()I"⟩
abbrev cX4_fits : ByteArray := prog_6_method_6_code
def yX4_fits : MethodName := ⟨RX4, "fits", "(II)Z"⟩
abbrev cX4_figure : ByteArray := prog_6_method_7_code
def yX4_figure : MethodName := ⟨RX4, "figure", "(I)I"⟩
def RX5 : String := "LastForemost$Rain"
def TX5 : u_T := fun k => match k with
  | _ => ("LastForemost$Rain", "fallenAhead", "[I", true)
def tyX5 : Nat → FieldType := fun k => match k with
  | _ => .array .int
abbrev wsX50 : List Cond := u_ws RX5 TX5 1
theorem nmX5 : ∀ a, a < 1 → ∀ b, b < 1 → a ≠ b → (TX5 a).2.1 ≠ (TX5 b).2.1 := by decide +kernel
theorem tyX5_ok : ∀ k, k < 1 → parseFieldDescriptor (TX5 k).2.2.1 = some (tyX5 k) := by decide +kernel
abbrev cX5_init : ByteArray := prog_7_method_1_code
def yX5_init : MethodName := ⟨RX5, "<init>", "()V"⟩
abbrev cX5_between : ByteArray := prog_7_method_2_code
def yX5_between : MethodName := ⟨RX5, "between", "(II)I"⟩
abbrev cX5_turn : ByteArray := prog_7_method_3_code
def yX5_turn : MethodName := ⟨RX5, "turn", "(II)V"⟩
def RX6 : String := "LastForemost$Rules"
def TX6 : u_T := fun k => match k with
  | 0 => ("LastForemost$Rules", "settings", "[I", true)
  | _ => ("LastForemost$Rules", "loves", "[[I", true)
def tyX6 : Nat → FieldType := fun k => match k with
  | 0 => .array .int
  | _ => .array (.array .int)
abbrev wsX60 : List Cond := u_ws RX6 TX6 2
theorem nmX6 : ∀ a, a < 2 → ∀ b, b < 2 → a ≠ b → (TX6 a).2.1 ≠ (TX6 b).2.1 := by decide +kernel
theorem tyX6_ok : ∀ k, k < 2 → parseFieldDescriptor (TX6 k).2.2.1 = some (tyX6 k) := by decide +kernel
abbrev cX6_init : ByteArray := prog_8_method_1_code
def yX6_init : MethodName := ⟨RX6, "<init>", "()V"⟩
abbrev cX6_seatWorth : ByteArray := prog_8_method_2_code
def yX6_seatWorth : MethodName := ⟨RX6, "seatWorth", "(II)I"⟩
abbrev cX6_wide : ByteArray := prog_8_method_3_code
def yX6_wide : MethodName := ⟨RX6, "wide", "()I"⟩
abbrev cX6_seatsBeside : ByteArray := prog_8_method_4_code
def yX6_seatsBeside : MethodName := ⟨RX6, "seatsBeside", "(II)I"⟩
def RX7 : String := "LastForemost$Sheet"
def TX7 : u_T := fun k => match k with
  | 0 => ("LastForemost$Sheet", "items", "[I", true)
  | 1 => ("LastForemost$Sheet", "form", "I", false)
  | _ => ("LastForemost$Sheet", "size", "I", false)
def tyX7 : Nat → FieldType := fun k => match k with
  | 0 => .array .int
  | 1 => .int
  | _ => .int
abbrev wsX70 : List Cond := u_ws RX7 TX7 3
theorem nmX7 : ∀ a, a < 3 → ∀ b, b < 3 → a ≠ b → (TX7 a).2.1 ≠ (TX7 b).2.1 := by decide +kernel
theorem tyX7_ok : ∀ k, k < 3 → parseFieldDescriptor (TX7 k).2.2.1 = some (tyX7 k) := by decide +kernel
abbrev cX7_init : ByteArray := prog_9_method_1_code
def yX7_init : MethodName := ⟨RX7, "<init>", "()V"⟩
abbrev cX7_isLost : ByteArray := prog_9_method_2_code
def yX7_isLost : MethodName := ⟨RX7, "isLost", "()Z"⟩
abbrev cX7_renew : ByteArray := prog_9_method_3_code
def yX7_renew : MethodName := ⟨RX7, "renew", "(II)V"⟩
abbrev cX7_findingAt : ByteArray := prog_9_method_4_code
def yX7_findingAt : MethodName := ⟨RX7, "findingAt", "(II)I"⟩
abbrev cX7_holds : ByteArray := prog_9_method_5_code
def yX7_holds : MethodName := ⟨RX7, "holds", "(II)Z"⟩
abbrev cX7_put : ByteArray := prog_9_method_6_code
def yX7_put : MethodName := ⟨RX7, "put", "(II)V"⟩
def RX8 : String := "LastForemost$Sundays"
def TX8 : u_T := fun k => match k with
  | 0 => ("LastForemost$Sundays", "told", "[I", true)
  | 1 => ("LastForemost$Sundays", "lates", "[I", true)
  | _ => ("LastForemost$Sundays", "all", "I", false)
def tyX8 : Nat → FieldType := fun k => match k with
  | 0 => .array .int
  | 1 => .array .int
  | _ => .int
abbrev wsX80 : List Cond := u_ws RX8 TX8 3
theorem nmX8 : ∀ a, a < 3 → ∀ b, b < 3 → a ≠ b → (TX8 a).2.1 ≠ (TX8 b).2.1 := by decide +kernel
theorem tyX8_ok : ∀ k, k < 3 → parseFieldDescriptor (TX8 k).2.2.1 = some (tyX8 k) := by decide +kernel
abbrev cX8_init : ByteArray := prog_10_method_1_code
def yX8_init : MethodName := ⟨RX8, "<init>", "()V"⟩
abbrev cX8_add : ByteArray := prog_10_method_2_code
def yX8_add : MethodName := ⟨RX8, "add", "(II)V"⟩
abbrev cX8_chanceAbove : ByteArray := prog_10_method_3_code
def yX8_chanceAbove : MethodName := ⟨RX8, "chanceAbove", "(I)I"⟩
abbrev cX8_chanceBelow : ByteArray := prog_10_method_4_code
def yX8_chanceBelow : MethodName := ⟨RX8, "chanceBelow", "(I)I"⟩
def RX9 : String := "LastForemost"
def TX9 : u_T := fun k => match k with
  | 0 => ("LastForemost", "people", "LLastForemost$People;", true)
  | 1 => ("LastForemost", "rain", "LLastForemost$Rain;", true)
  | 2 => ("LastForemost", "rules", "LLastForemost$Rules;", true)
  | 3 => ("LastForemost", "waiting", "[I", true)
  | 4 => ("LastForemost", "goingIn", "[I", true)
  | 5 => ("LastForemost", "church", "LLastForemost$Church;", true)
  | 6 => ("LastForemost", "otherChurch", "LLastForemost$Church;", true)
  | 7 => ("LastForemost", "resting", "LLastForemost$Game;", true)
  | 8 => ("LastForemost", "choosing", "LLastForemost$Game;", true)
  | 9 => ("LastForemost", "facts", "LLastForemost$Facts;", true)
  | 10 => ("LastForemost", "orders", "LLastForemost$Orders;", true)
  | 11 => ("LastForemost", "sundays", "LLastForemost$Sundays;", true)
  | 12 => ("LastForemost", "sheets", "[LLastForemost$Sheet;", true)
  | 13 => ("LastForemost", "latestFinding", "I", false)
  | 14 => ("LastForemost", "restingKnown", "Z", false)
  | 15 => ("LastForemost", "choosingKnown", "Z", false)
  | _ => ("LastForemost", "ordersKnown", "Z", false)
def tyX9 : Nat → FieldType := fun k => match k with
  | 0 => .object "LastForemost$People"
  | 1 => .object "LastForemost$Rain"
  | 2 => .object "LastForemost$Rules"
  | 3 => .array .int
  | 4 => .array .int
  | 5 => .object "LastForemost$Church"
  | 6 => .object "LastForemost$Church"
  | 7 => .object "LastForemost$Game"
  | 8 => .object "LastForemost$Game"
  | 9 => .object "LastForemost$Facts"
  | 10 => .object "LastForemost$Orders"
  | 11 => .object "LastForemost$Sundays"
  | 12 => .array (.object "LastForemost$Sheet")
  | 13 => .int
  | 14 => .boolean
  | 15 => .boolean
  | _ => .boolean
abbrev wsX90 : List Cond := u_ws RX9 TX9 17
theorem nmX9 : ∀ a, a < 17 → ∀ b, b < 17 → a ≠ b → (TX9 a).2.1 ≠ (TX9 b).2.1 := by decide +kernel
theorem tyX9_ok : ∀ k, k < 17 → parseFieldDescriptor (TX9 k).2.2.1 = some (tyX9 k) := by decide +kernel
abbrev cX9_init : ByteArray := prog_1_method_1_code
def yX9_init : MethodName := ⟨RX9, "<init>", "()V"⟩
abbrev cX9_type : ByteArray := prog_1_method_2_code
def yX9_type : MethodName := ⟨RX9, "type", "(I)I"⟩
abbrev cX9_wipe : ByteArray := prog_1_method_3_code
def yX9_wipe : MethodName := ⟨RX9, "wipe", "()I"⟩
abbrev cX9_fault : ByteArray := prog_1_method_4_code
def yX9_fault : MethodName := ⟨RX9, "fault", "()I"⟩
abbrev cX9_person : ByteArray := prog_1_method_5_code
def yX9_person : MethodName := ⟨RX9, "person", "(II)I"⟩
abbrev cX9_waits : ByteArray := prog_1_method_6_code
def yX9_waits : MethodName := ⟨RX9, "waits", "(II)I"⟩
abbrev cX9_rain : ByteArray := prog_1_method_7_code
def yX9_rain : MethodName := ⟨RX9, "rain", "(II)I"⟩
abbrev cX9_set : ByteArray := prog_1_method_8_code
def yX9_set : MethodName := ⟨RX9, "set", "(II)I"⟩
abbrev cX9_love : ByteArray := prog_1_method_9_code
def yX9_love : MethodName := ⟨RX9, "love", "(III)I"⟩
abbrev cX9_read : ByteArray := prog_1_method_10_code
def yX9_read : MethodName := ⟨RX9, "read", "(I)I"⟩
abbrev cX9_seat : ByteArray := prog_1_method_11_code
def yX9_seat : MethodName := ⟨RX9, "seat", "(I)I"⟩
abbrev cX9_who : ByteArray := prog_1_method_12_code
def yX9_who : MethodName := ⟨RX9, "who", "(I)I"⟩
abbrev cX9_has : ByteArray := prog_1_method_13_code
def yX9_has : MethodName := ⟨RX9, "has", "(I)I"⟩
abbrev cX9_best : ByteArray := prog_1_method_14_code
def yX9_best : MethodName := ⟨RX9, "best", "(II)I"⟩
abbrev cX9_rest : ByteArray := prog_1_method_15_code
def yX9_rest : MethodName := ⟨RX9, "rest", "(I)I"⟩
abbrev cX9_change : ByteArray := prog_1_method_16_code
def yX9_change : MethodName := ⟨RX9, "change", "(II)I"⟩
abbrev cX9_changes : ByteArray := prog_1_method_17_code
def yX9_changes : MethodName := ⟨RX9, "changes", "()I"⟩
abbrev cX9_churches : ByteArray := prog_1_method_18_code
def yX9_churches : MethodName := ⟨RX9, "churches", "(I)I"⟩
abbrev cX9_sat : ByteArray := prog_1_method_19_code
def yX9_sat : MethodName := ⟨RX9, "sat", "(II)I"⟩
abbrev cX9_front : ByteArray := prog_1_method_20_code
def yX9_front : MethodName := ⟨RX9, "front", "(II)I"⟩
abbrev cX9_forget : ByteArray := prog_1_method_21_code
def yX9_forget : MethodName := ⟨RX9, "forget", "()I"⟩
abbrev cX9_came : ByteArray := prog_1_method_22_code
def yX9_came : MethodName := ⟨RX9, "came", "(I)I"⟩
abbrev cX9_sure : ByteArray := prog_1_method_23_code
def yX9_sure : MethodName := ⟨RX9, "sure", "()I"⟩
abbrev cX9_fair : ByteArray := prog_1_method_24_code
def yX9_fair : MethodName := ⟨RX9, "fair", "(II)J"⟩
abbrev cX9_lot : ByteArray := prog_1_method_25_code
def yX9_lot : MethodName := ⟨RX9, "lot", "(II)I"⟩
abbrev cX9_sunday : ByteArray := prog_1_method_26_code
def yX9_sunday : MethodName := ⟨RX9, "sunday", "(II)I"⟩
abbrev cX9_late : ByteArray := prog_1_method_27_code
def yX9_late : MethodName := ⟨RX9, "late", "(II)J"⟩
abbrev cX9_allLate : ByteArray := prog_1_method_28_code
def yX9_allLate : MethodName := ⟨RX9, "allLate", "(I)J"⟩
abbrev cX9_sheet : ByteArray := prog_1_method_29_code
def yX9_sheet : MethodName := ⟨RX9, "sheet", "(III)I"⟩
abbrev cX9_lose : ByteArray := prog_1_method_30_code
def yX9_lose : MethodName := ⟨RX9, "lose", "(I)I"⟩
abbrev cX9_lay : ByteArray := prog_1_method_31_code
def yX9_lay : MethodName := ⟨RX9, "lay", "(IIII)I"⟩
abbrev cX9_get : ByteArray := prog_1_method_32_code
def yX9_get : MethodName := ⟨RX9, "get", "(III)I"⟩
abbrev cX9_copy : ByteArray := prog_1_method_33_code
def yX9_copy : MethodName := ⟨RX9, "copy", "(IIIII)I"⟩
abbrev cX9_write : ByteArray := prog_1_method_34_code
def yX9_write : MethodName := ⟨RX9, "write", "(I)I"⟩
abbrev cX9_count : ByteArray := prog_1_method_35_code
def yX9_count : MethodName := ⟨RX9, "count", "(I)I"⟩
abbrev cX9_digest : ByteArray := prog_1_method_36_code
def yX9_digest : MethodName := ⟨RX9, "digest", "()J"⟩
abbrev cX9_digestPerson : ByteArray := prog_1_method_37_code
def yX9_digestPerson : MethodName := ⟨RX9, "digestPerson", "(JI)J"⟩
abbrev cX9_within : ByteArray := prog_1_method_38_code
def yX9_within : MethodName := ⟨RX9, "within", "(III)Z"⟩
abbrev cX9_isNumber : ByteArray := prog_1_method_39_code
def yX9_isNumber : MethodName := ⟨RX9, "isNumber", "(I)Z"⟩
abbrev cX9_isSheet : ByteArray := prog_1_method_40_code
def yX9_isSheet : MethodName := ⟨RX9, "isSheet", "(I)Z"⟩
abbrev cX9_isForm : ByteArray := prog_1_method_41_code
def yX9_isForm : MethodName := ⟨RX9, "isForm", "(I)Z"⟩
abbrev cX9_isThere : ByteArray := prog_1_method_42_code
def yX9_isThere : MethodName := ⟨RX9, "isThere", "(I)Z"⟩
abbrev cX9_finding : ByteArray := prog_1_method_43_code
def yX9_finding : MethodName := ⟨RX9, "finding", "(I)I"⟩
abbrev cX9_dropAnswers : ByteArray := prog_1_method_44_code
def yX9_dropAnswers : MethodName := ⟨RX9, "dropAnswers", "()V"⟩
abbrev cX9_minuteInside : ByteArray := prog_1_method_45_code
def yX9_minuteInside : MethodName := ⟨RX9, "minuteInside", "(II)I"⟩
abbrev cX9_gather : ByteArray := prog_1_method_46_code
def yX9_gather : MethodName := ⟨RX9, "gather", "()V"⟩
abbrev cX9_seatAll : ByteArray := prog_1_method_47_code
def yX9_seatAll : MethodName := ⟨RX9, "seatAll", "()V"⟩
abbrev cX9_everybody : ByteArray := prog_1_method_48_code
def yX9_everybody : MethodName := ⟨RX9, "everybody", "()I"⟩
abbrev cX9_wouldChange : ByteArray := prog_1_method_49_code
def yX9_wouldChange : MethodName := ⟨RX9, "wouldChange", "(II)Z"⟩
abbrev cX9_findRest : ByteArray := prog_1_method_50_code
def yX9_findRest : MethodName := ⟨RX9, "findRest", "()V"⟩
abbrev cX9_waitByRow : ByteArray := prog_1_method_51_code
def yX9_waitByRow : MethodName := ⟨RX9, "waitByRow", "(I)V"⟩
abbrev cX9_findChoosing : ByteArray := prog_1_method_52_code
def yX9_findChoosing : MethodName := ⟨RX9, "findChoosing", "()V"⟩
abbrev cX9_addFact : ByteArray := prog_1_method_53_code
def yX9_addFact : MethodName := ⟨RX9, "addFact", "(III)I"⟩
abbrev cX9_findOrders : ByteArray := prog_1_method_54_code
def yX9_findOrders : MethodName := ⟨RX9, "findOrders", "()V"⟩
abbrev cX9_freeSeat : ByteArray := prog_1_method_55_code
def yX9_freeSeat : MethodName := ⟨RX9, "freeSeat", "(II)I"⟩
abbrev cX9_lowestTerms : ByteArray := prog_1_method_56_code
def yX9_lowestTerms : MethodName := ⟨RX9, "lowestTerms", "(JJI)J"⟩
abbrev cX9_commonDivisor : ByteArray := prog_1_method_57_code
def yX9_commonDivisor : MethodName := ⟨RX9, "commonDivisor", "(JJ)J"⟩
def RX10 : String := "LastForemostModel"
def TX10 : u_T := fun k => match k with
  | 0 => ("LastForemostModel", "forms", "[I", true)
  | 1 => ("LastForemostModel", "sizes", "[I", true)
  | 2 => ("LastForemostModel", "items", "[I", true)
  | 3 => ("LastForemostModel", "moved", "[I", true)
  | 4 => ("LastForemostModel", "latest", "I", false)
  | 5 => ("LastForemostModel", "text", "[I", true)
  | 6 => ("LastForemostModel", "typed", "I", false)
  | 7 => ("LastForemostModel", "at", "I", false)
  | 8 => ("LastForemostModel", "people", "I", false)
  | 9 => ("LastForemostModel", "minutes", "[I", true)
  | 10 => ("LastForemostModel", "wishes", "[I", true)
  | 11 => ("LastForemostModel", "waiting", "[I", true)
  | 12 => ("LastForemostModel", "rains", "[I", true)
  | 13 => ("LastForemostModel", "settings", "[I", true)
  | 14 => ("LastForemostModel", "loves", "[I", true)
  | 15 => ("LastForemostModel", "seats", "[I", true)
  | 16 => ("LastForemostModel", "toldWaiting", "[I", true)
  | 17 => ("LastForemostModel", "restMany", "I", false)
  | 18 => ("LastForemostModel", "restFirst", "I", false)
  | 19 => ("LastForemostModel", "facts", "I", false)
  | 20 => ("LastForemostModel", "told", "[I", true)
  | 21 => ("LastForemostModel", "order", "[I", true)
  | 22 => ("LastForemostModel", "cameAs", "[I", true)
  | 23 => ("LastForemostModel", "canBeFirst", "[Z", true)
  | 24 => ("LastForemostModel", "sums", "[J", true)
  | 25 => ("LastForemostModel", "orderMany", "I", false)
  | 26 => ("LastForemostModel", "allOrders", "I", false)
  | 27 => ("LastForemostModel", "sundays", "I", false)
  | 28 => ("LastForemostModel", "toldOf", "[I", true)
  | _ => ("LastForemostModel", "lates", "[I", true)
def tyX10 : Nat → FieldType := fun k => match k with
  | 0 => .array .int
  | 1 => .array .int
  | 2 => .array .int
  | 3 => .array .int
  | 4 => .int
  | 5 => .array .int
  | 6 => .int
  | 7 => .int
  | 8 => .int
  | 9 => .array .int
  | 10 => .array .int
  | 11 => .array .int
  | 12 => .array .int
  | 13 => .array .int
  | 14 => .array .int
  | 15 => .array .int
  | 16 => .array .int
  | 17 => .int
  | 18 => .int
  | 19 => .int
  | 20 => .array .int
  | 21 => .array .int
  | 22 => .array .int
  | 23 => .array .boolean
  | 24 => .array .long
  | 25 => .int
  | 26 => .int
  | 27 => .int
  | 28 => .array .int
  | _ => .array .int
abbrev wsX100 : List Cond := u_ws RX10 TX10 30
theorem nmX10 : ∀ a, a < 30 → ∀ b, b < 30 → a ≠ b → (TX10 a).2.1 ≠ (TX10 b).2.1 := by decide +kernel
theorem tyX10_ok : ∀ k, k < 30 → parseFieldDescriptor (TX10 k).2.2.1 = some (tyX10 k) := by decide +kernel
abbrev cX10_init : ByteArray := prog_12_method_1_code
def yX10_init : MethodName := ⟨RX10, "<init>", "()V"⟩
abbrev cX10_in : ByteArray := prog_12_method_3_code
def yX10_in : MethodName := ⟨RX10, "in", "(JJJ)Z"⟩
abbrev cX10_no : ByteArray := prog_12_method_4_code
def yX10_no : MethodName := ⟨RX10, "no", "(I)J"⟩
abbrev cX10_isTwo : ByteArray := prog_12_method_5_code
def yX10_isTwo : MethodName := ⟨RX10, "isTwo", "(I)Z"⟩
abbrev cX10_isSeven : ByteArray := prog_12_method_6_code
def yX10_isSeven : MethodName := ⟨RX10, "isSeven", "(I)Z"⟩
abbrev cX10_isIn : ByteArray := prog_12_method_7_code
def yX10_isIn : MethodName := ⟨RX10, "isIn", "(II)Z"⟩
abbrev cX10_met : ByteArray := prog_12_method_8_code
def yX10_met : MethodName := ⟨RX10, "met", "(I)I"⟩
abbrev cX10_isSheet : ByteArray := prog_12_method_9_code
def yX10_isSheet : MethodName := ⟨RX10, "isSheet", "(I)Z"⟩
abbrev cX10_sheet : ByteArray := prog_12_method_10_code
def yX10_sheet : MethodName := ⟨RX10, "sheet", "(III)I"⟩
abbrev cX10_lose : ByteArray := prog_12_method_11_code
def yX10_lose : MethodName := ⟨RX10, "lose", "(I)I"⟩
abbrev cX10_lacks : ByteArray := prog_12_method_12_code
def yX10_lacks : MethodName := ⟨RX10, "lacks", "(III)I"⟩
abbrev cX10_cut : ByteArray := prog_12_method_13_code
def yX10_cut : MethodName := ⟨RX10, "cut", "(II)I"⟩
abbrev cX10_lay : ByteArray := prog_12_method_14_code
def yX10_lay : MethodName := ⟨RX10, "lay", "(IIII)I"⟩
abbrev cX10_get : ByteArray := prog_12_method_15_code
def yX10_get : MethodName := ⟨RX10, "get", "(III)I"⟩
abbrev cX10_copy : ByteArray := prog_12_method_16_code
def yX10_copy : MethodName := ⟨RX10, "copy", "(IIIII)I"⟩
abbrev cX10_type : ByteArray := prog_12_method_17_code
def yX10_type : MethodName := ⟨RX10, "type", "(I)I"⟩
abbrev cX10_wipe : ByteArray := prog_12_method_18_code
def yX10_wipe : MethodName := ⟨RX10, "wipe", "()I"⟩
abbrev cX10_here : ByteArray := prog_12_method_19_code
def yX10_here : MethodName := ⟨RX10, "here", "()I"⟩
abbrev cX10_nobody : ByteArray := prog_12_method_20_code
def yX10_nobody : MethodName := ⟨RX10, "nobody", "()I"⟩
abbrev cX10_figure : ByteArray := prog_12_method_21_code
def yX10_figure : MethodName := ⟨RX10, "figure", "(I)I"⟩
abbrev cX10_readsPart : ByteArray := prog_12_method_22_code
def yX10_readsPart : MethodName := ⟨RX10, "readsPart", "()Z"⟩
abbrev cX10_reads : ByteArray := prog_12_method_23_code
def yX10_reads : MethodName := ⟨RX10, "reads", "()I"⟩
abbrev cX10_fault : ByteArray := prog_12_method_24_code
def yX10_fault : MethodName := ⟨RX10, "fault", "()I"⟩
abbrev cX10_isPerson : ByteArray := prog_12_method_25_code
def yX10_isPerson : MethodName := ⟨RX10, "isPerson", "(I)Z"⟩
abbrev cX10_least : ByteArray := prog_12_method_26_code
def yX10_least : MethodName := ⟨RX10, "least", "(II)I"⟩
abbrev cX10_goesIn : ByteArray := prog_12_method_27_code
def yX10_goesIn : MethodName := ⟨RX10, "goesIn", "(I)I"⟩
abbrev cX10_wet : ByteArray := prog_12_method_28_code
def yX10_wet : MethodName := ⟨RX10, "wet", "(I)I"⟩
abbrev cX10_personOf : ByteArray := prog_12_method_29_code
def yX10_personOf : MethodName := ⟨RX10, "personOf", "(II)I"⟩
abbrev cX10_person : ByteArray := prog_12_method_30_code
def yX10_person : MethodName := ⟨RX10, "person", "(II)I"⟩
abbrev cX10_waits : ByteArray := prog_12_method_31_code
def yX10_waits : MethodName := ⟨RX10, "waits", "(II)I"⟩
abbrev cX10_rain : ByteArray := prog_12_method_32_code
def yX10_rain : MethodName := ⟨RX10, "rain", "(II)I"⟩
abbrev cX10_lowOf : ByteArray := prog_12_method_33_code
def yX10_lowOf : MethodName := ⟨RX10, "lowOf", "(I)I"⟩
abbrev cX10_highOf : ByteArray := prog_12_method_34_code
def yX10_highOf : MethodName := ⟨RX10, "highOf", "(I)I"⟩
abbrev cX10_set : ByteArray := prog_12_method_35_code
def yX10_set : MethodName := ⟨RX10, "set", "(II)I"⟩
abbrev cX10_love : ByteArray := prog_12_method_36_code
def yX10_love : MethodName := ⟨RX10, "love", "(III)I"⟩
abbrev cX10_read : ByteArray := prog_12_method_37_code
def yX10_read : MethodName := ⟨RX10, "read", "(I)I"⟩
abbrev cX10_isOutside : ByteArray := prog_12_method_38_code
def yX10_isOutside : MethodName := ⟨RX10, "isOutside", "(I)Z"⟩
abbrev cX10_findSeats : ByteArray := prog_12_method_39_code
def yX10_findSeats : MethodName := ⟨RX10, "findSeats", "(II)V"⟩
abbrev cX10_whole : ByteArray := prog_12_method_40_code
def yX10_whole : MethodName := ⟨RX10, "whole", "()I"⟩
abbrev cX10_findAll : ByteArray := prog_12_method_41_code
def yX10_findAll : MethodName := ⟨RX10, "findAll", "()V"⟩
abbrev cX10_amount : ByteArray := prog_12_method_42_code
def yX10_amount : MethodName := ⟨RX10, "amount", "(I)I"⟩
abbrev cX10_worth : ByteArray := prog_12_method_43_code
def yX10_worth : MethodName := ⟨RX10, "worth", "(II)I"⟩
abbrev cX10_hasNow : ByteArray := prog_12_method_44_code
def yX10_hasNow : MethodName := ⟨RX10, "hasNow", "(II)I"⟩
abbrev cX10_seat : ByteArray := prog_12_method_45_code
def yX10_seat : MethodName := ⟨RX10, "seat", "(I)I"⟩
abbrev cX10_whoOf : ByteArray := prog_12_method_46_code
def yX10_whoOf : MethodName := ⟨RX10, "whoOf", "(I)I"⟩
abbrev cX10_who : ByteArray := prog_12_method_47_code
def yX10_who : MethodName := ⟨RX10, "who", "(I)I"⟩
abbrev cX10_hasOf : ByteArray := prog_12_method_48_code
def yX10_hasOf : MethodName := ⟨RX10, "hasOf", "(I)I"⟩
abbrev cX10_has : ByteArray := prog_12_method_49_code
def yX10_has : MethodName := ⟨RX10, "has", "(I)I"⟩
abbrev cX10_bestOf : ByteArray := prog_12_method_50_code
def yX10_bestOf : MethodName := ⟨RX10, "bestOf", "(II)I"⟩
abbrev cX10_best : ByteArray := prog_12_method_51_code
def yX10_best : MethodName := ⟨RX10, "best", "(II)I"⟩
abbrev cX10_rests : ByteArray := prog_12_method_52_code
def yX10_rests : MethodName := ⟨RX10, "rests", "()Z"⟩
abbrev cX10_findRest : ByteArray := prog_12_method_53_code
def yX10_findRest : MethodName := ⟨RX10, "findRest", "()V"⟩
abbrev cX10_restOf : ByteArray := prog_12_method_54_code
def yX10_restOf : MethodName := ⟨RX10, "restOf", "(I)I"⟩
abbrev cX10_rest : ByteArray := prog_12_method_55_code
def yX10_rest : MethodName := ⟨RX10, "rest", "(I)I"⟩
abbrev cX10_wouldChange : ByteArray := prog_12_method_56_code
def yX10_wouldChange : MethodName := ⟨RX10, "wouldChange", "(II)Z"⟩
abbrev cX10_change : ByteArray := prog_12_method_57_code
def yX10_change : MethodName := ⟨RX10, "change", "(II)I"⟩
abbrev cX10_changesNow : ByteArray := prog_12_method_58_code
def yX10_changesNow : MethodName := ⟨RX10, "changesNow", "()I"⟩
abbrev cX10_changes : ByteArray := prog_12_method_59_code
def yX10_changes : MethodName := ⟨RX10, "changes", "()I"⟩
abbrev cX10_hasIn : ByteArray := prog_12_method_60_code
def yX10_hasIn : MethodName := ⟨RX10, "hasIn", "(II)I"⟩
abbrev cX10_churchesOf : ByteArray := prog_12_method_61_code
def yX10_churchesOf : MethodName := ⟨RX10, "churchesOf", "(I)I"⟩
abbrev cX10_churches : ByteArray := prog_12_method_62_code
def yX10_churches : MethodName := ⟨RX10, "churches", "(I)I"⟩
abbrev cX10_tells : ByteArray := prog_12_method_63_code
def yX10_tells : MethodName := ⟨RX10, "tells", "(III)I"⟩
abbrev cX10_sat : ByteArray := prog_12_method_64_code
def yX10_sat : MethodName := ⟨RX10, "sat", "(II)I"⟩
abbrev cX10_front : ByteArray := prog_12_method_65_code
def yX10_front : MethodName := ⟨RX10, "front", "(II)I"⟩
abbrev cX10_forget : ByteArray := prog_12_method_66_code
def yX10_forget : MethodName := ⟨RX10, "forget", "()I"⟩
abbrev cX10_goesOn : ByteArray := prog_12_method_67_code
def yX10_goesOn : MethodName := ⟨RX10, "goesOn", "()Z"⟩
abbrev cX10_swaps : ByteArray := prog_12_method_68_code
def yX10_swaps : MethodName := ⟨RX10, "swaps", "(II)V"⟩
abbrev cX10_isSo : ByteArray := prog_12_method_69_code
def yX10_isSo : MethodName := ⟨RX10, "isSo", "()Z"⟩
abbrev cX10_looks : ByteArray := prog_12_method_70_code
def yX10_looks : MethodName := ⟨RX10, "looks", "()V"⟩
abbrev cX10_findOrders : ByteArray := prog_12_method_71_code
def yX10_findOrders : MethodName := ⟨RX10, "findOrders", "()V"⟩
abbrev cX10_cameOf : ByteArray := prog_12_method_72_code
def yX10_cameOf : MethodName := ⟨RX10, "cameOf", "(I)I"⟩
abbrev cX10_came : ByteArray := prog_12_method_73_code
def yX10_came : MethodName := ⟨RX10, "came", "(I)I"⟩
abbrev cX10_sureNow : ByteArray := prog_12_method_74_code
def yX10_sureNow : MethodName := ⟨RX10, "sureNow", "()I"⟩
abbrev cX10_sure : ByteArray := prog_12_method_75_code
def yX10_sure : MethodName := ⟨RX10, "sure", "()I"⟩
abbrev cX10_part : ByteArray := prog_12_method_76_code
def yX10_part : MethodName := ⟨RX10, "part", "(JJI)J"⟩
abbrev cX10_fairOf : ByteArray := prog_12_method_77_code
def yX10_fairOf : MethodName := ⟨RX10, "fairOf", "(II)J"⟩
abbrev cX10_fair : ByteArray := prog_12_method_78_code
def yX10_fair : MethodName := ⟨RX10, "fair", "(II)J"⟩
abbrev cX10_lotOf : ByteArray := prog_12_method_79_code
def yX10_lotOf : MethodName := ⟨RX10, "lotOf", "(II)I"⟩
abbrev cX10_lot : ByteArray := prog_12_method_80_code
def yX10_lot : MethodName := ⟨RX10, "lot", "(II)I"⟩
abbrev cX10_sunday : ByteArray := prog_12_method_81_code
def yX10_sunday : MethodName := ⟨RX10, "sunday", "(II)I"⟩
abbrev cX10_late : ByteArray := prog_12_method_82_code
def yX10_late : MethodName := ⟨RX10, "late", "(II)J"⟩
abbrev cX10_allLateOf : ByteArray := prog_12_method_83_code
def yX10_allLateOf : MethodName := ⟨RX10, "allLateOf", "(I)J"⟩
abbrev cX10_allLate : ByteArray := prog_12_method_84_code
def yX10_allLate : MethodName := ⟨RX10, "allLate", "(I)J"⟩
abbrev cX10_write : ByteArray := prog_12_method_85_code
def yX10_write : MethodName := ⟨RX10, "write", "(I)I"⟩
abbrev cX10_pews : ByteArray := prog_12_method_86_code
def yX10_pews : MethodName := ⟨RX10, "pews", "()I"⟩
abbrev cX10_count : ByteArray := prog_12_method_87_code
def yX10_count : MethodName := ⟨RX10, "count", "(I)I"⟩
abbrev cX10_digest : ByteArray := prog_12_method_88_code
def yX10_digest : MethodName := ⟨RX10, "digest", "()J"⟩
def RJx8e188 : String := "java/lang/Cloneable"
def TJx8e188 : u_T := fun k => match k with
  | _ => ("", "", "", false)
def tyJx8e188 : Nat → FieldType := fun k => match k with
  | _ => .int
abbrev wsJx8e1880 : List Cond := u_ws RJx8e188 TJx8e188 0
theorem nmJx8e188 : ∀ a, a < 0 → ∀ b, b < 0 → a ≠ b → (TJx8e188 a).2.1 ≠ (TJx8e188 b).2.1 := by decide +kernel
theorem tyJx8e188_ok : ∀ k, k < 0 → parseFieldDescriptor (TJx8e188 k).2.2.1 = some (tyJx8e188 k) := by decide +kernel
def RJ6 : String := "java/lang/Integer"
def TJ6 : u_T := fun k => match k with
  | _ => ("", "", "", false)
def tyJ6 : Nat → FieldType := fun k => match k with
  | _ => .int
abbrev wsJ60 : List Cond := u_ws RJ6 TJ6 0
theorem nmJ6 : ∀ a, a < 0 → ∀ b, b < 0 → a ≠ b → (TJ6 a).2.1 ≠ (TJ6 b).2.1 := by decide +kernel
theorem tyJ6_ok : ∀ k, k < 0 → parseFieldDescriptor (TJ6 k).2.2.1 = some (tyJ6 k) := by decide +kernel
abbrev cJ6_bitCount_0f7a4 : ByteArray := prog_14_method_49_code
def yJ6_bitCount_0f7a4 : MethodName := ⟨RJ6, "bitCount", "(I)I"⟩
def RJ9 : String := "java/lang/Math"
def TJ9 : u_T := fun k => match k with
  | _ => ("", "", "", false)
def tyJ9 : Nat → FieldType := fun k => match k with
  | _ => .int
abbrev wsJ90 : List Cond := u_ws RJ9 TJ9 0
theorem nmJ9 : ∀ a, a < 0 → ∀ b, b < 0 → a ≠ b → (TJ9 a).2.1 ≠ (TJ9 b).2.1 := by decide +kernel
theorem tyJ9_ok : ∀ k, k < 0 → parseFieldDescriptor (TJ9 k).2.2.1 = some (tyJ9 k) := by decide +kernel
abbrev cJ9_abs_0f7a4 : ByteArray := prog_15_method_59_code
def yJ9_abs_0f7a4 : MethodName := ⟨RJ9, "abs", "(I)I"⟩
abbrev cJ9_abs_067f4 : ByteArray := prog_15_method_61_code
def yJ9_abs_067f4 : MethodName := ⟨RJ9, "abs", "(J)J"⟩
abbrev cJ9_max_7cf53 : ByteArray := prog_15_method_65_code
def yJ9_max_7cf53 : MethodName := ⟨RJ9, "max", "(II)I"⟩
abbrev cJ9_max_f86c9 : ByteArray := prog_15_method_66_code
def yJ9_max_f86c9 : MethodName := ⟨RJ9, "max", "(JJ)J"⟩
abbrev cJ9_min_7cf53 : ByteArray := prog_15_method_69_code
def yJ9_min_7cf53 : MethodName := ⟨RJ9, "min", "(II)I"⟩
def RJ10 : String := "java/lang/System"
def TJ10 : u_T := fun k => match k with
  | _ => ("", "", "", false)
def tyJ10 : Nat → FieldType := fun k => match k with
  | _ => .int
abbrev wsJ100 : List Cond := u_ws RJ10 TJ10 0
theorem nmJ10 : ∀ a, a < 0 → ∀ b, b < 0 → a ≠ b → (TJ10 a).2.1 ≠ (TJ10 b).2.1 := by decide +kernel
theorem tyJ10_ok : ∀ k, k < 0 → parseFieldDescriptor (TJ10 k).2.2.1 = some (tyJ10 k) := by decide +kernel
def RL : String := "LastForemostLaw"
abbrev cL_law : ByteArray := code
def yL_law : MethodName := ⟨RL, "law", "([I)Z"⟩
-- field words in the tables
theorem inX0 : ∀ w ∈ wsX00, w ∈ lw_tbl := by
  intro w hw
  have h : wsX00 = ([175, 177, 179, 181, 183, 185] : List Nat).filterMap (fun i => lw_tbl[i]?) := by decide +kernel
  rw [h] at hw
  obtain ⟨i, -, hi⟩ := List.mem_filterMap.mp hw
  exact List.mem_of_getElem? hi
theorem inX1 : ∀ w ∈ wsX10, w ∈ lw_tbl := by
  intro w hw
  have h : wsX10 = ([237, 239, 241, 243] : List Nat).filterMap (fun i => lw_tbl[i]?) := by decide +kernel
  rw [h] at hw
  obtain ⟨i, -, hi⟩ := List.mem_filterMap.mp hw
  exact List.mem_of_getElem? hi
theorem inX2 : ∀ w ∈ wsX20, w ∈ lw_tbl := by
  intro w hw
  have h : wsX20 = ([205, 207, 209, 211, 213, 215, 217, 219] : List Nat).filterMap (fun i => lw_tbl[i]?) := by decide +kernel
  rw [h] at hw
  obtain ⟨i, -, hi⟩ := List.mem_filterMap.mp hw
  exact List.mem_of_getElem? hi
theorem inX3 : ∀ w ∈ wsX30, w ∈ lw_tbl := by
  intro w hw
  have h : wsX30 = ([258, 260, 262, 264, 266, 268] : List Nat).filterMap (fun i => lw_tbl[i]?) := by decide +kernel
  rw [h] at hw
  obtain ⟨i, -, hi⟩ := List.mem_filterMap.mp hw
  exact List.mem_of_getElem? hi
theorem inX4 : ∀ w ∈ wsX40, w ∈ lw_tbl := by
  intro w hw
  have h : wsX40 = ([108, 110, 112, 114, 116, 118] : List Nat).filterMap (fun i => lw_tbl[i]?) := by decide +kernel
  rw [h] at hw
  obtain ⟨i, -, hi⟩ := List.mem_filterMap.mp hw
  exact List.mem_of_getElem? hi
theorem inX5 : ∀ w ∈ wsX50, w ∈ lw_tbl := by
  intro w hw
  have h : wsX50 = ([129] : List Nat).filterMap (fun i => lw_tbl[i]?) := by decide +kernel
  rw [h] at hw
  obtain ⟨i, -, hi⟩ := List.mem_filterMap.mp hw
  exact List.mem_of_getElem? hi
theorem inX6 : ∀ w ∈ wsX60, w ∈ lw_tbl := by
  intro w hw
  have h : wsX60 = ([155, 157] : List Nat).filterMap (fun i => lw_tbl[i]?) := by decide +kernel
  rw [h] at hw
  obtain ⟨i, -, hi⟩ := List.mem_filterMap.mp hw
  exact List.mem_of_getElem? hi
theorem inX7 : ∀ w ∈ wsX70, w ∈ lw_tbl := by
  intro w hw
  have h : wsX70 = ([302, 304, 306] : List Nat).filterMap (fun i => lw_tbl[i]?) := by decide +kernel
  rw [h] at hw
  obtain ⟨i, -, hi⟩ := List.mem_filterMap.mp hw
  exact List.mem_of_getElem? hi
theorem inX8 : ∀ w ∈ wsX80, w ∈ lw_tbl := by
  intro w hw
  have h : wsX80 = ([282, 284, 286] : List Nat).filterMap (fun i => lw_tbl[i]?) := by decide +kernel
  rw [h] at hw
  obtain ⟨i, -, hi⟩ := List.mem_filterMap.mp hw
  exact List.mem_of_getElem? hi
theorem inX9 : ∀ w ∈ wsX90, w ∈ lw_tbl := by
  intro w hw
  have h : wsX90 = ([326, 328, 330, 332, 334, 336, 338, 340, 342, 344, 346, 348, 350, 352, 354, 356, 358] : List Nat).filterMap (fun i => lw_tbl[i]?) := by decide +kernel
  rw [h] at hw
  obtain ⟨i, -, hi⟩ := List.mem_filterMap.mp hw
  exact List.mem_of_getElem? hi
theorem inX10 : ∀ w ∈ wsX100, w ∈ lw_tbl := by
  intro w hw
  have h : wsX100 = ([840, 842, 844, 846, 848, 850, 852, 854, 856, 858, 860, 862, 864, 866, 868, 870, 872, 874, 876, 878, 880, 882, 884, 886, 888, 890, 892, 894, 896, 898] : List Nat).filterMap (fun i => lw_tbl[i]?) := by decide +kernel
  rw [h] at hw
  obtain ⟨i, -, hi⟩ := List.mem_filterMap.mp hw
  exact List.mem_of_getElem? hi
end
section
/-! ints as whole numbers -/
theorem zadd (a b : Int) : Int32.ofInt a + Int32.ofInt b = Int32.ofInt (a + b) := (Int32.ofInt_add a b).symm
theorem zsub (a b : Int) : Int32.ofInt a - Int32.ofInt b = Int32.ofInt (a - b) := (Int32.ofInt_sub a b).symm
theorem zmul (a b : Int) : Int32.ofInt a * Int32.ofInt b = Int32.ofInt (a * b) := (Int32.ofInt_mul a b).symm
theorem zneg (a : Int) : -Int32.ofInt a = Int32.ofInt (-a) := (Int32.ofInt_neg a).symm
theorem z0 : (0 : Int32) = Int32.ofInt 0 := rfl
theorem z1 : (1 : Int32) = Int32.ofInt 1 := rfl
/-- in the ints' range -/
def zr (a : Int) : Prop := -2147483648 ≤ a ∧ a < 2147483648
theorem zI_to {a : Int} (h : zr a) : (Int32.ofInt a).toInt = a := Int32.toInt_ofInt_of_le h.1 h.2
theorem zlt {a b : Int} (ha : zr a) (hb : zr b) : Int32.ofInt a < Int32.ofInt b ↔ a < b := by rw [Int32.lt_iff_toInt_lt, zI_to ha, zI_to hb]
theorem zle {a b : Int} (ha : zr a) (hb : zr b) : Int32.ofInt a ≤ Int32.ofInt b ↔ a ≤ b := by rw [Int32.le_iff_toInt_le, zI_to ha, zI_to hb]
theorem zeq {a b : Int} (ha : zr a) (hb : zr b) : Int32.ofInt a = Int32.ofInt b ↔ a = b := by rw [← Int32.toInt_inj, zI_to ha, zI_to hb]
theorem zlt0 {a : Int} (ha : zr a) : Int32.ofInt a < 0 ↔ a < 0 := zlt (b := 0) ha (by unfold zr; omega)
theorem zle0 {a : Int} (ha : zr a) : Int32.ofInt a ≤ 0 ↔ a ≤ 0 := zle (b := 0) ha (by unfold zr; omega)
theorem z0lt {a : Int} (ha : zr a) : 0 < Int32.ofInt a ↔ 0 < a := zlt (a := 0) (by unfold zr; omega) ha
theorem z0le {a : Int} (ha : zr a) : 0 ≤ Int32.ofInt a ↔ 0 ≤ a := zle (a := 0) (by unfold zr; omega) ha
theorem zeq0 {a : Int} (ha : zr a) : Int32.ofInt a = 0 ↔ a = 0 := zeq (b := 0) ha (by unfold zr; omega)
theorem zcl {x : Int32} {k : Nat} (h : x = Int32.ofInt (k : Int)) (hk : k < 2147483648) : x.toNatClampNeg = k := by
  rw [h, Int32.toNatClampNeg_ofInt_of_le (by omega) (by omega)]
  omega
theorem zin {x : Int32} {k N : Nat} (h : x = Int32.ofInt (k : Int)) (hk : k < N) (hN : k < 2147483648 := by omega) : vp_in x N := by
  intro q
  rw [zcl h hN] at q
  rcases q with q | q
  · rw [h, zlt0 (by unfold zr; omega)] at q
    omega
  · omega
/-- of an int, the number -/
theorem zof (x : Int32) : x = Int32.ofInt x.toInt := (Int32.ofInt_toInt x).symm
theorem zrof (x : Int32) : zr x.toInt := ⟨Int32.le_toInt x, Int32.toInt_lt x⟩
theorem zofN {x : Int32} (h : 0 ≤ x.toInt) : x = Int32.ofInt (x.toInt.toNat : Int) := by
  rw [Int.toNat_of_nonneg h]
  exact zof x
/-- an index, its number, its bound -/
theorem ixi {i : Int32} {f : Nat → Prop} (k N : Nat) (h2 : k < N) (h : f k) (h1 : i = Int32.ofInt (k : Int) := by first | rfl | assumption | (simp only [zadd, zsub, zmul]; congr 1; omega)) (h3 : N ≤ 2147483648 := by first | decide | omega) : ∃ k : Nat, i = Int32.ofInt (k : Int) ∧ (k < N ∧ k < 2147483648) ∧ f k := ⟨k, h1, ⟨h2, Nat.lt_of_lt_of_le h2 h3⟩, h⟩
end
section
/-! A small machine over the same bytecode. Cells are numbered; a reference is a number.
    A step is a predicate transformer: 'am_ex .. K x F M' says that instruction x from frame F and memory M goes on so that K holds there. -/
/-- cells in use; kind and size of each; ints; longs; references -/
abbrev am_M : Type := Nat × (Nat → Nat × Nat) × (Nat → Nat → Int32) × (Nat → Nat → Int64) × (Nat → Nat → Option Nat)
/-- instruction, next pc, two numbers, an Int -/
abbrev am_I : Type := Instr × Nat × Nat × Nat × Int
/-- pc, locals, stack, cells and slots that may still be made -/
abbrev am_F : Type := Nat × List Value × List Value × Nat × Nat
abbrev am_Q : Type := Option Value → am_M → Prop
/-- a callee: method, arguments, cells, slots, memory, what is wanted behind it -/
abbrev am_C : Type := Nat → List Value → Nat → Nat → am_M → am_Q → Prop
def am_u {α : Type} (f : Nat → Nat → α) (c i : Nat) (v : α) : Nat → Nat → α := fun c' i' => if c' = c then (if i' = i then v else f c' i') else f c' i'
/-- a whole row -/
def am_ur {α : Type} (f : Nat → Nat → α) (c : Nat) (r : Nat → α) : Nat → Nat → α := fun c' => if c' = c then r else f c'
def am_clr (L : List Value) (i : Nat) : List Value := match i with
  | 0 => L
  | j + 1 => match L[j]? with
    | some (.long _) => L.set j .null
    | some (.double _) => L.set j .null
    | _ => L
def am_st1 (L : List Value) (i : Nat) (v : Value) : List Value := (am_clr L i).set i v
def am_st2 (L : List Value) (i : Nat) (v : Value) : List Value := ((am_clr L i).set i v).set (i + 1) .null
def am_ob (M : am_M) (r k : Nat) : Bool := Nat.beq (M.2.1 r).1 k
/-- an int array, of the world or read only -/
def am_ia (M : am_M) (r : Nat) : Bool := match (M.2.1 r).1 with
  | 0 => true
  | 1 => true
  | _ => false
def am_isref : Value → Bool
  | .ref _ => true
  | _ => false
def am_sw (K : Nat → Prop) (x : Int32) (lo : Int) : List Nat → Prop
  | [] => True
  | t :: ts => (x.toInt = lo → K t) ∧ am_sw K x (lo + 1) ts
/-- the targets of a switch -/
def am_tg (pc : Nat) (offs : List Int) : List Nat := offs.map fun o => ((pc : Int) + o).toNat
/-- the class of a method, by the number of the last method of each class -/
def am_kcl : List Nat → Nat → Nat → Nat
  | [], _, c => c
  | n :: ns, k, c => match Nat.ble k n with
    | true => c
    | false => am_kcl ns k (c + 1)
def am_kc (k : Nat) : Nat := am_kcl [7, 9, 16, 26, 33, 36, 40, 46, 50, 107, 194] k 0
/-- how many locals each method has -/
def am_nls : List Nat := [4, 5, 5, 3, 5, 7, 5, 1, 1, 4, 2, 4, 3, 4, 2, 3, 8, 1, 6, 6, 3, 4, 3, 1, 4, 4, 5, 1, 2, 1, 2, 2, 2, 2, 1, 3, 5, 1, 3, 1, 4, 1, 1, 4, 3, 3, 3, 1, 3, 2, 2, 2, 2, 2, 1, 4, 4, 4, 4, 5, 5, 2, 2, 2, 7, 2, 3, 4, 2, 3, 3, 2, 2, 1, 9, 7, 3, 3, 7, 4, 3, 6, 5, 8, 5, 2, 4, 7, 3, 1, 1, 1, 2, 2, 1, 3, 2, 1, 1, 6, 4, 4, 5, 4, 1, 4, 7, 11, 2, 6, 1, 1, 1, 2, 2, 1, 5, 2, 4, 2, 6, 4, 7, 2, 2, 1, 1, 3, 4, 2, 1, 2, 2, 2, 4, 3, 3, 4, 4, 1, 1, 4, 5, 3, 2, 8, 1, 1, 1, 6, 3, 2, 3, 2, 2, 2, 8, 3, 6, 3, 2, 2, 6, 3, 4, 1, 5, 7, 2, 4, 3, 3, 2, 5, 4, 5, 3, 2, 2, 2, 4, 1, 11, 3, 3, 8, 3, 3, 3, 7, 2, 4, 4, 4, 5, 1, 4]
def am_nl (k : Nat) : Nat := am_nls.getD k 0
def am_ent : List Value → List Value
  | [] => []
  | .long v :: vs => .long v :: .null :: am_ent vs
  | .double v :: vs => .double v :: .null :: am_ent vs
  | v :: vs => v :: am_ent vs
def am_pad (n : Nat) (L : List Value) : List Value := L ++ List.replicate (n - L.length) .null
/-- the field's type by class and number -/
def am_ty (ci k : Nat) : FieldType := match ci with
  | 0 => tyX0 k
  | 1 => tyX1 k
  | 2 => tyX2 k
  | 3 => tyX3 k
  | 4 => tyX4 k
  | 5 => tyX5 k
  | 6 => tyX6 k
  | 7 => tyX7 k
  | 8 => tyX8 k
  | 9 => tyX9 k
  | _ => tyX10 k
/-- 0: int, 1: boolean, 2: a reference -/
def am_fk (t : FieldType) : Nat := match t with
  | .int => 0
  | .boolean => 1
  | .object _ => 2
  | .array _ => 2
  | _ => 3
def am_ld (L : List Value) (i : Nat) (f : Value → Prop) : Prop := match L[i]? with
  | some v => f v
  | none => False
def am_isi : Value → Bool
  | .int _ => true
  | _ => false
def am_isl : Value → Bool
  | .long _ => true
  | _ => false
def am_iload (L : List Value) (i : Nat) (f : Value → Prop) : Prop := match L[i]? with
  | some (.int v) => f (.int v)
  | _ => False
def am_lload (L : List Value) (i : Nat) (f : Value → Prop) : Prop := match L[i]? with
  | some (.long v) => f (.long v)
  | _ => False
def am_aload (L : List Value) (i : Nat) (f : Value → Prop) : Prop := match L[i]? with
  | some (.ref v) => f (.ref v)
  | _ => False
def am_ii (st : List Value) (f : Int32 → Int32 → List Value → Prop) : Prop := match st with
  | .int y :: .int x :: r => f x y r
  | _ => False
def am_ll (st : List Value) (f : Int64 → Int64 → List Value → Prop) : Prop := match st with
  | .long y :: .long x :: r => f x y r
  | _ => False
def am_i (st : List Value) (f : Int32 → List Value → Prop) : Prop := match st with
  | .int x :: r => f x r
  | _ => False
def am_l (st : List Value) (f : Int64 → List Value → Prop) : Prop := match st with
  | .long x :: r => f x r
  | _ => False
def am_r (st : List Value) (f : Nat → List Value → Prop) : Prop := match st with
  | .ref x :: r => f x r
  | _ => False
/-- index and array -/
def am_ir (st : List Value) (f : Int32 → Nat → List Value → Prop) : Prop := match st with
  | .int i :: .ref a :: r => f i a r
  | _ => False
/-- an index: the number that it is, within -/
def am_ix (i : Int32) (N : Nat) (f : Nat → Prop) : Prop := ∃ k : Nat, i = Int32.ofInt (k : Int) ∧ (k < N ∧ k < 2147483648) ∧ f k
def am_cp (st : List Value) (f : Nat → Nat → Int32 → Int32 → Int32 → List Value → Prop) : Prop := match st with
  | .int n :: .int dp :: .ref t :: .int sp :: .ref s :: r => f s t sp dp n r
  | _ => False
/-- Math: abs, abs of longs, max, max of longs, min -/
def am_math (k : Nat) (st : List Value) (f : Value → List Value → Prop) : Prop := match k with
  | 0 => am_i st fun x r => f (.int (if 0 ≤ x then x else 0 - x)) r
  | 1 => am_l st fun x r => f (.long (if 0 < x then x else -x)) r
  | 2 => am_ii st fun x y r => f (.int (if x < y then y else x)) r
  | 3 => am_ll st fun x y r => f (.long (if y < x then x else y)) r
  | _ => am_ii st fun x y r => f (.int (if y < x then y else x)) r
def am_v (st : List Value) (f : Value → List Value → Prop) : Prop := match st with
  | x :: r => f x r
  | _ => False
def am_if (c : Prop) (A B : Prop) : Prop := (c → A) ∧ (¬ c → B)
def am_on (b : Bool) (A : Prop) : Prop := match b with
  | true => A
  | false => False
def am_sum (st : List Value) : Nat := (st.map fun v => v.category).sum
/-- the receiver's cell is an object of class ci -/
def am_recv (M : am_M) (ci : Nat) : List Value → Bool
  | .ref r :: _ => am_ob M r (6 + ci)
  | _ => false
def am_call (call : am_C) (K : am_F → am_M → Prop) (nx k nb : Nat) (z : Int) (L st : List Value) (bc bs : Nat) (M : am_M) : Prop :=
  match z with
  | 0 => call k (st.take nb).reverse 0 0 M (fun r M' => K (nx, L, r.toList ++ st.drop nb, bc, bs) M')
  | _ => ∃ c1 s1, c1 ≤ bc ∧ s1 ≤ bs ∧ call k (st.take nb).reverse c1 s1 M (fun r M' => K (nx, L, r.toList ++ st.drop nb, bc - c1, bs - s1) M')
def am_ex (call : am_C) (Q : am_Q) (K : am_F → am_M → Prop) (x : am_I) (F : am_F) (M : am_M) : Prop :=
  match F, x with
  | (pc, L, st, bc, bs), (ins, nx, a, b, z) =>
  match ins with
  | .iconst i => K (nx, L, .int (Int32.ofInt i) :: st, bc, bs) M
  | .bipush i => K (nx, L, .int (Int32.ofInt i) :: st, bc, bs) M
  | .sipush i => K (nx, L, .int (Int32.ofInt i) :: st, bc, bs) M
  | .ldc _ => K (nx, L, .int (Int32.ofInt z) :: st, bc, bs) M
  | .ldc_w _ => K (nx, L, .int (Int32.ofInt z) :: st, bc, bs) M
  | .ldc2_w _ => K (nx, L, .long (Int64.ofInt z) :: st, bc, bs) M
  | .lconst _ => K (nx, L, .long (Int64.ofInt z) :: st, bc, bs) M
  | .iload_n i => am_iload L i fun v => K (nx, L, v :: st, bc, bs) M
  | .iload i => am_iload L i fun v => K (nx, L, v :: st, bc, bs) M
  | .lload_n i => am_lload L i fun v => K (nx, L, v :: st, bc, bs) M
  | .lload i => am_lload L i fun v => K (nx, L, v :: st, bc, bs) M
  | .aload_n i => am_aload L i fun v => K (nx, L, v :: st, bc, bs) M
  | .aload i => am_aload L i fun v => K (nx, L, v :: st, bc, bs) M
  | .istore_n i => am_i st fun x r => am_on (Nat.blt i L.length) (K (nx, am_st1 L i (.int x), r, bc, bs) M)
  | .istore i => am_i st fun x r => am_on (Nat.blt i L.length) (K (nx, am_st1 L i (.int x), r, bc, bs) M)
  | .lstore_n i => am_l st fun x r => am_on (Nat.blt (i + 1) L.length) (K (nx, am_st2 L i (.long x), r, bc, bs) M)
  | .lstore i => am_l st fun x r => am_on (Nat.blt (i + 1) L.length) (K (nx, am_st2 L i (.long x), r, bc, bs) M)
  | .astore_n i => am_r st fun x r => am_on (Nat.blt i L.length) (K (nx, am_st1 L i (.ref x), r, bc, bs) M)
  | .astore i => am_r st fun x r => am_on (Nat.blt i L.length) (K (nx, am_st1 L i (.ref x), r, bc, bs) M)
  | .iinc i n => am_iload L i fun v => match v with
    | .int x => K (nx, am_st1 L i (.int (x + Int32.ofInt n)), st, bc, bs) M
    | _ => False
  | .iadd => am_ii st fun x y r => K (nx, L, .int (x + y) :: r, bc, bs) M
  | .isub => am_ii st fun x y r => K (nx, L, .int (x - y) :: r, bc, bs) M
  | .imul => am_ii st fun x y r => K (nx, L, .int (x * y) :: r, bc, bs) M
  | .iand => am_ii st fun x y r => K (nx, L, .int (x &&& y) :: r, bc, bs) M
  | .ior => am_ii st fun x y r => K (nx, L, .int (x ||| y) :: r, bc, bs) M
  | .ixor => am_ii st fun x y r => K (nx, L, .int (x ^^^ y) :: r, bc, bs) M
  | .ishl => am_ii st fun x y r => K (nx, L, .int (x <<< (y &&& 31)) :: r, bc, bs) M
  | .ishr => am_ii st fun x y r => K (nx, L, .int (x >>> (y &&& 31)) :: r, bc, bs) M
  | .iushr => am_ii st fun x y r => K (nx, L, .int (x.toUInt32 >>> (y.toUInt32 &&& Int32.toUInt32 31)).toInt32 :: r, bc, bs) M
  | .idiv => am_ii st fun x y r => ¬ y = 0 ∧ K (nx, L, .int (x / y) :: r, bc, bs) M
  | .irem => am_ii st fun x y r => ¬ y = 0 ∧ K (nx, L, .int (x - x / y * y) :: r, bc, bs) M
  | .ineg => am_i st fun x r => K (nx, L, .int (-x) :: r, bc, bs) M
  | .i2l => am_i st fun x r => K (nx, L, .long x.toInt64 :: r, bc, bs) M
  | .i2b => am_i st fun x r => K (nx, L, .int x.toInt8.toInt32 :: r, bc, bs) M
  | .i2s => am_i st fun x r => K (nx, L, .int x.toInt16.toInt32 :: r, bc, bs) M
  | .ladd => am_ll st fun x y r => K (nx, L, .long (x + y) :: r, bc, bs) M
  | .lsub => am_ll st fun x y r => K (nx, L, .long (x - y) :: r, bc, bs) M
  | .lmul => am_ll st fun x y r => K (nx, L, .long (x * y) :: r, bc, bs) M
  | .ldiv => am_ll st fun x y r => ¬ y = 0 ∧ K (nx, L, .long (x / y) :: r, bc, bs) M
  | .lrem => am_ll st fun x y r => ¬ y = 0 ∧ K (nx, L, .long (x - x / y * y) :: r, bc, bs) M
  | .lneg => am_l st fun x r => K (nx, L, .long (-x) :: r, bc, bs) M
  | .lcmp => am_ll st fun x y r => K (nx, L, .int (lg_cmp x y) :: r, bc, bs) M
  | .dup => am_v st fun v r => am_on (Nat.beq v.category 1) (K (nx, L, v :: v :: r, bc, bs) M)
  | .dup2 => am_v st fun v r => am_v r fun w r => am_on (Nat.beq v.category 1 && Nat.beq w.category 1) (K (nx, L, v :: w :: v :: w :: r, bc, bs) M)
  | .pop => am_v st fun v r => am_on (Nat.beq v.category 1) (K (nx, L, r, bc, bs) M)
  | .ifCond .eq _ => am_i st fun x r => am_if (x = 0) (K (a, L, r, bc, bs) M) (K (nx, L, r, bc, bs) M)
  | .ifCond .ne _ => am_i st fun x r => am_if (x = 0) (K (nx, L, r, bc, bs) M) (K (a, L, r, bc, bs) M)
  | .ifCond .lt _ => am_i st fun x r => am_if (x < 0) (K (a, L, r, bc, bs) M) (K (nx, L, r, bc, bs) M)
  | .ifCond .ge _ => am_i st fun x r => am_if (0 ≤ x) (K (a, L, r, bc, bs) M) (K (nx, L, r, bc, bs) M)
  | .ifCond .gt _ => am_i st fun x r => am_if (0 < x) (K (a, L, r, bc, bs) M) (K (nx, L, r, bc, bs) M)
  | .ifCond .le _ => am_i st fun x r => am_if (x ≤ 0) (K (a, L, r, bc, bs) M) (K (nx, L, r, bc, bs) M)
  | .if_icmp .eq _ => am_ii st fun x y r => am_if (x = y) (K (a, L, r, bc, bs) M) (K (nx, L, r, bc, bs) M)
  | .if_icmp .ne _ => am_ii st fun x y r => am_if (x = y) (K (nx, L, r, bc, bs) M) (K (a, L, r, bc, bs) M)
  | .if_icmp .lt _ => am_ii st fun x y r => am_if (x < y) (K (a, L, r, bc, bs) M) (K (nx, L, r, bc, bs) M)
  | .if_icmp .ge _ => am_ii st fun x y r => am_if (y ≤ x) (K (a, L, r, bc, bs) M) (K (nx, L, r, bc, bs) M)
  | .if_icmp .gt _ => am_ii st fun x y r => am_if (y < x) (K (a, L, r, bc, bs) M) (K (nx, L, r, bc, bs) M)
  | .if_icmp .le _ => am_ii st fun x y r => am_if (x ≤ y) (K (a, L, r, bc, bs) M) (K (nx, L, r, bc, bs) M)
  | .goto _ => K (a, L, st, bc, bs) M
  | .getfield _ => am_r st fun r rest => am_on (am_ob M r (6 + a)) (match am_fk (am_ty a b) with
    | 2 => match M.2.2.2.2 r b with
      | some q => K (nx, L, .ref q :: rest, bc, bs) M
      | none => False
    | 3 => False
    | _ => K (nx, L, .int (M.2.2.1 r b) :: rest, bc, bs) M)
  | .iaload => am_ir st fun i r rest => am_on (am_ia M r) (am_ix i (M.2.1 r).2 fun k => K (nx, L, .int (M.2.2.1 r k) :: rest, bc, bs) M)
  | .baload => am_ir st fun i r rest => am_on (am_ob M r 2) (am_ix i (M.2.1 r).2 fun k => K (nx, L, .int (M.2.2.1 r k) :: rest, bc, bs) M)
  | .laload => am_ir st fun i r rest => am_on (am_ob M r 3) (am_ix i (M.2.1 r).2 fun k => K (nx, L, .long (M.2.2.2.1 r k) :: rest, bc, bs) M)
  | .aaload => am_ir st fun i r rest => am_on (am_ob M r (4 + a)) (am_ix i (M.2.1 r).2 fun k => match M.2.2.2.2 r k with
    | some q => K (nx, L, .ref q :: rest, bc, bs) M
    | none => False)
  | .iastore => am_i st fun x st => am_ir st fun i r rest => am_on (am_ob M r 0) (am_ix i (M.2.1 r).2 fun k => K (nx, L, rest, bc, bs) (M.1, M.2.1, am_u M.2.2.1 r k x, M.2.2.2.1, M.2.2.2.2))
  | .bastore => am_i st fun x st => am_ir st fun i r rest => am_on (am_ob M r 2) (am_ix i (M.2.1 r).2 fun k => K (nx, L, rest, bc, bs) (M.1, M.2.1, am_u M.2.2.1 r k (vp_nar .boolean x), M.2.2.2.1, M.2.2.2.2))
  | .lastore => am_l st fun x st => am_ir st fun i r rest => am_on (am_ob M r 3) (am_ix i (M.2.1 r).2 fun k => K (nx, L, rest, bc, bs) (M.1, M.2.1, M.2.2.1, am_u M.2.2.2.1 r k x, M.2.2.2.2))
  | .arraylength => am_r st fun r rest => am_on (am_ia M r) (K (nx, L, .int (Int32.ofNat (M.2.1 r).2) :: rest, bc, bs) M)
  | .putfield _ => (match am_fk (am_ty a b) with
    | 0 => am_i st fun x st => am_r st fun r rest => am_on (am_ob M r (6 + a)) (K (nx, L, rest, bc, bs) (M.1, M.2.1, am_u M.2.2.1 r b x, M.2.2.2.1, M.2.2.2.2))
    | 1 => am_i st fun x st => am_r st fun r rest => am_on (am_ob M r (6 + a)) ((x = 0 ∨ x = 1) ∧ K (nx, L, rest, bc, bs) (M.1, M.2.1, am_u M.2.2.1 r b x, M.2.2.2.1, M.2.2.2.2))
    | 2 => am_r st fun q st => am_r st fun r rest => am_on (am_ob M r (6 + a)) (K (nx, L, rest, bc, bs) (M.1, M.2.1, M.2.2.1, M.2.2.2.1, am_u M.2.2.2.2 r b (some q)))
    | _ => False)
  | .newarray .int => am_i st fun x rest => 1 ≤ bc ∧ ¬ x < 0 ∧ x.toNatClampNeg ≤ bs ∧ x.toNatClampNeg ≤ 100000000 ∧ K (nx, L, .ref M.1 :: rest, bc - 1, bs - x.toNatClampNeg) (M.1 + 1, (fun c => if c = M.1 then (0, x.toNatClampNeg) else M.2.1 c), am_ur M.2.2.1 M.1 (fun _ => 0), M.2.2.2.1, M.2.2.2.2)
  | .getstatic _ => am_on (Nat.blt a 3) (K (nx, L, .ref a :: st, bc, bs) M)
  | .checkcast _ => am_r st fun r rest => am_on (am_ob M r 0) (K (nx, L, st, bc, bs) M)
  | .new _ => 1 ≤ bc ∧ b ≤ bs ∧ K (nx, L, .ref M.1 :: st, bc - 1, bs - b) (M.1 + 1, (fun c => if c = M.1 then (6 + a, 0) else M.2.1 c), am_ur M.2.2.1 M.1 (fun _ => 0), M.2.2.2.1, am_ur M.2.2.2.2 M.1 (fun _ => none))
  | .newarray .boolean => am_i st fun x rest => 1 ≤ bc ∧ ¬ x < 0 ∧ x.toNatClampNeg ≤ bs ∧ x.toNatClampNeg ≤ 100000000 ∧ K (nx, L, .ref M.1 :: rest, bc - 1, bs - x.toNatClampNeg) (M.1 + 1, (fun c => if c = M.1 then (2, x.toNatClampNeg) else M.2.1 c), am_ur M.2.2.1 M.1 (fun _ => 0), M.2.2.2.1, M.2.2.2.2)
  | .newarray .long => am_i st fun x rest => 1 ≤ bc ∧ ¬ x < 0 ∧ x.toNatClampNeg ≤ bs ∧ x.toNatClampNeg ≤ 50000000 ∧ K (nx, L, .ref M.1 :: rest, bc - 1, bs - x.toNatClampNeg) (M.1 + 1, (fun c => if c = M.1 then (3, x.toNatClampNeg) else M.2.1 c), M.2.2.1, am_ur M.2.2.2.1 M.1 (fun _ => 0), M.2.2.2.2)
  | .anewarray _ => am_i st fun x rest => 1 ≤ bc ∧ ¬ x < 0 ∧ x.toNatClampNeg ≤ bs ∧ x.toNatClampNeg ≤ 100000000 ∧ K (nx, L, .ref M.1 :: rest, bc - 1, bs - x.toNatClampNeg) (M.1 + 1, (fun c => if c = M.1 then (4, x.toNatClampNeg) else M.2.1 c), M.2.2.1, M.2.2.2.1, am_ur M.2.2.2.2 M.1 (fun _ => none))
  | .aastore => am_r st fun v st => am_ir st fun i r rest => am_on (am_ob M r 4 && am_ob M v 13) (am_ix i (M.2.1 r).2 fun k => K (nx, L, rest, bc, bs) (M.1, M.2.1, M.2.2.1, M.2.2.2.1, am_u M.2.2.2.2 r k (some v)))
  | .multianewarray _ _ => am_ii st fun x y rest => 8 ≤ bc ∧ x = 7 ∧ y = 7 ∧ 56 ≤ bs ∧ K (nx, L, .ref M.1 :: rest, bc - 8, bs - 56) (M.1 + 8, (fun c => if c = M.1 then (5, 7) else if M.1 < c ∧ c < M.1 + 8 then (0, 7) else M.2.1 c), (fun c => if M.1 < c ∧ c < M.1 + 8 then (fun _ => 0) else M.2.2.1 c), M.2.2.2.1, am_ur M.2.2.2.2 M.1 (fun i => if i < 7 then some (M.1 + 1 + i) else none))
  | .invokespecial _ => (match Nat.beq a 1000 with
    | true => am_r st fun _ rest => am_on (Nat.ble (am_sum rest) 8) (K (nx, L, rest, bc, bs) M)
    | false => am_on (Nat.ble b st.length && Nat.ble (am_sum (st.drop b)) 8 && Nat.ble (am_ent (st.take b).reverse).length (am_nl a) && am_recv M (am_kc a) (st.take b).reverse) (am_call call K nx a b z L st bc bs M))
  | .invokevirtual _ => match Nat.beq a 1001 with
    | true => am_r st fun r rest => am_on (am_ob M r 1 && Nat.ble (am_sum rest) 8) (1 ≤ bc ∧ (M.2.1 r).2 ≤ bs ∧ K (nx, L, .ref M.1 :: rest, bc - 1, bs - (M.2.1 r).2) (M.1 + 1, (fun c => if c = M.1 then (0, (M.2.1 r).2) else M.2.1 c), am_ur M.2.2.1 M.1 (M.2.2.1 r), M.2.2.2.1, M.2.2.2.2))
    | false => am_on (Nat.ble b st.length && Nat.ble (am_sum (st.drop b)) 8 && Nat.ble (am_ent (st.take b).reverse).length (am_nl a) && am_recv M (am_kc a) (st.take b).reverse) (am_call call K nx a b z L st bc bs M)
  | .invokestatic _ => match Nat.beq a 1002 with
    | true => am_cp st fun s t sp dp n rest => am_on (am_ob M s 0 && am_ob M t 0 && Nat.ble (am_sum rest) 8) (¬ sp < 0 ∧ ¬ dp < 0 ∧ ¬ n < 0 ∧ sp.toNatClampNeg + n.toNatClampNeg ≤ (M.2.1 s).2 ∧ dp.toNatClampNeg + n.toNatClampNeg ≤ (M.2.1 t).2 ∧ K (nx, L, rest, bc, bs) (M.1, M.2.1, am_ur M.2.2.1 t (va_cpy (M.2.2.1 s) (M.2.2.1 t) sp.toNatClampNeg dp.toNatClampNeg n.toNatClampNeg), M.2.2.2.1, M.2.2.2.2))
    | false => match Nat.beq a 1003 with
      | true => am_math b st fun v r => am_on (Nat.ble (am_sum r) 8) (K (nx, L, v :: r, bc, bs) M)
      | false => am_on (Nat.ble b st.length && Nat.ble (am_sum (st.drop b)) 8 && Nat.ble (am_ent (st.take b).reverse).length (am_nl a)) (am_call call K nx a b z L st bc bs M)
  | .tableswitch dflt lo hi offs => am_i st fun x r => am_sw (fun t => K (t, L, r, bc, bs) M) x lo (am_tg pc offs.toList) ∧ (x.toInt < lo ∨ hi < x.toInt → K (((pc : Int) + dflt).toNat, L, r, bc, bs) M)
  | .ireturn => am_i st fun x r => am_on r.isEmpty (match b with
    | 0 => Q (some (.int x)) M
    | _ => (x = 0 ∨ x = 1) ∧ Q (some (.int x)) M)
  | .lreturn => am_l st fun x r => am_on r.isEmpty (Q (some (.long x)) M)
  | .return_ => am_on st.isEmpty (Q none M)
  | _ => False
/-- the code: rows of sixteen -/
abbrev am_T : Type := List (List (Option am_I))
def am_at (T : am_T) (pc : Nat) : Option am_I := match T[pc / 16]? with
  | some r => match r[pc % 16]? with
    | some x => x
    | none => none
  | none => none
def am_step (call : am_C) (T : am_T) (Q : am_Q) (K : am_F → am_M → Prop) (F : am_F) (M : am_M) : Prop := match F with
  | (pc, L, st, bc, bs) => match am_at T pc with
    | some x => am_ex call Q K x (pc, L, st, bc, bs) M
    | none => False
/-- the least predicate that is closed under steps -/
def am_wp (call : am_C) (T : am_T) (Q : am_Q) (F : am_F) (M : am_M) : Prop := ∀ P : am_F → am_M → Prop, (∀ F M, am_step call T Q P F M → P F M) → P F M
/-- n steps at most, up to a pc that is to be stopped at -/
def am_run (call : am_C) (T : am_T) (Q : am_Q) (stop : Nat → Bool) (K : am_F → am_M → Prop) : Nat → am_F → am_M → Prop
  | 0 => K
  | n + 1 => fun F M => match F with
    | (pc, L, st, bc, bs) => match stop pc with
      | true => K (pc, L, st, bc, bs) M
      | false => am_step call T Q (am_run call T Q stop K n) (pc, L, st, bc, bs) M

theorem am_u_ne {α : Type} {f : Nat → Nat → α} {c i c' : Nat} {v : α} (h : c' ≠ c) : am_u f c i v c' = f c' := by
  funext j
  simp [am_u, h]
theorem am_u_at {α : Type} {f : Nat → Nat → α} {c i j : Nat} {v : α} : am_u f c i v c j = if j = i then v else f c j := by simp [am_u]
theorem am_ur_ne {α : Type} {f : Nat → Nat → α} {c c' : Nat} {r : Nat → α} (h : c' ≠ c) : am_ur f c r c' = f c' := by simp [am_ur, h]
theorem am_ur_at {α : Type} {f : Nat → Nat → α} {c : Nat} {r : Nat → α} : am_ur f c r c = r := by simp [am_ur]
/-! what follows from less -/
theorem am_iload_mono {L : List Value} {i : Nat} {f g : Value → Prop} (h : ∀ v, f v → g v) (k : am_iload L i f) : am_iload L i g := by
  unfold am_iload at *
  split at k
  · exact h _ k
  · exact k.elim
theorem am_lload_mono {L : List Value} {i : Nat} {f g : Value → Prop} (h : ∀ v, f v → g v) (k : am_lload L i f) : am_lload L i g := by
  unfold am_lload at *
  split at k
  · exact h _ k
  · exact k.elim
theorem am_aload_mono {L : List Value} {i : Nat} {f g : Value → Prop} (h : ∀ v, f v → g v) (k : am_aload L i f) : am_aload L i g := by
  unfold am_aload at *
  split at k
  · exact h _ k
  · exact k.elim
theorem am_ii_mono {st : List Value} {f g : Int32 → Int32 → List Value → Prop} (h : ∀ x y r, f x y r → g x y r) (k : am_ii st f) : am_ii st g := by
  unfold am_ii at *
  split at k
  · exact h _ _ _ k
  · exact k.elim
theorem am_ll_mono {st : List Value} {f g : Int64 → Int64 → List Value → Prop} (h : ∀ x y r, f x y r → g x y r) (k : am_ll st f) : am_ll st g := by
  unfold am_ll at *
  split at k
  · exact h _ _ _ k
  · exact k.elim
theorem am_i_mono {st : List Value} {f g : Int32 → List Value → Prop} (h : ∀ x r, f x r → g x r) (k : am_i st f) : am_i st g := by
  unfold am_i at *
  split at k
  · exact h _ _ k
  · exact k.elim
theorem am_l_mono {st : List Value} {f g : Int64 → List Value → Prop} (h : ∀ x r, f x r → g x r) (k : am_l st f) : am_l st g := by
  unfold am_l at *
  split at k
  · exact h _ _ k
  · exact k.elim
theorem am_r_mono {st : List Value} {f g : Nat → List Value → Prop} (h : ∀ x r, f x r → g x r) (k : am_r st f) : am_r st g := by
  unfold am_r at *
  split at k
  · exact h _ _ k
  · exact k.elim
theorem am_ir_mono {st : List Value} {f g : Int32 → Nat → List Value → Prop} (h : ∀ x y r, f x y r → g x y r) (k : am_ir st f) : am_ir st g := by
  unfold am_ir at *
  split at k
  · exact h _ _ _ k
  · exact k.elim
theorem am_cp_mono {st : List Value} {f g : Nat → Nat → Int32 → Int32 → Int32 → List Value → Prop} (h : ∀ s t sp dp n r, f s t sp dp n r → g s t sp dp n r) (k : am_cp st f) : am_cp st g := by
  unfold am_cp at *
  split at k
  · exact h _ _ _ _ _ _ k
  · exact k.elim
theorem am_ix_mono {i : Int32} {N : Nat} {f g : Nat → Prop} (h : ∀ k, f k → g k) (k : am_ix i N f) : am_ix i N g := by
  obtain ⟨j, h1, h2, h3⟩ := k
  exact ⟨j, h1, h2, h _ h3⟩
theorem am_math_mono {k : Nat} {st : List Value} {f g : Value → List Value → Prop} (h : ∀ v r, f v r → g v r) (q : am_math k st f) : am_math k st g := by
  unfold am_math at *
  split at q
  · exact am_i_mono (fun _ _ k => h _ _ k) q
  · exact am_l_mono (fun _ _ k => h _ _ k) q
  · exact am_ii_mono (fun _ _ _ k => h _ _ k) q
  · exact am_ll_mono (fun _ _ _ k => h _ _ k) q
  · exact am_ii_mono (fun _ _ _ k => h _ _ k) q
theorem am_v_mono {st : List Value} {f g : Value → List Value → Prop} (h : ∀ x r, f x r → g x r) (k : am_v st f) : am_v st g := by
  unfold am_v at *
  split at k
  · exact h _ _ k
  · exact k.elim
theorem am_on_mono {b : Bool} {A B : Prop} (h : A → B) (k : am_on b A) : am_on b B := by
  cases b
  · exact k
  · exact h k
theorem am_if_mono {c A B A' B' : Prop} (h : A → A') (h2 : B → B') (k : am_if c A B) : am_if c A' B' := ⟨fun q => h (k.1 q), fun q => h2 (k.2 q)⟩
theorem am_sw_mono {K K' : Nat → Prop} (h : ∀ t, K t → K' t) {x : Int32} : ∀ {lo : Int} {ts : List Nat}, am_sw K x lo ts → am_sw K' x lo ts
  | _, [], _ => trivial
  | _, _ :: _, k => ⟨fun q => h _ (k.1 q), am_sw_mono h k.2⟩
def am_cm (call call' : am_C) : Prop := ∀ (k : Nat) (a : List Value) (c s : Nat) (M : am_M) (Q Q' : am_Q), (∀ r M, Q r M → Q' r M) → call k a c s M Q → call' k a c s M Q'
theorem am_call_mono {call call' : am_C} (hc : am_cm call call') {K K' : am_F → am_M → Prop} (hK : ∀ F M, K F M → K' F M) {nx k nb : Nat} {z : Int} {L st : List Value} {bc bs : Nat} {M : am_M} (h : am_call call K nx k nb z L st bc bs M) : am_call call' K' nx k nb z L st bc bs M := by
  unfold am_call at *
  split
  · exact hc _ _ _ _ _ _ _ (fun _ _ q => hK _ _ q) h
  · split at h
    · contradiction
    · obtain ⟨c1, s1, h1, h2, h3⟩ := h
      exact ⟨c1, s1, h1, h2, hc _ _ _ _ _ _ _ (fun _ _ q => hK _ _ q) h3⟩
set_option maxHeartbeats 4000000 in
theorem am_ex_mono {call call' : am_C} (hc : am_cm call call') {Q Q' : am_Q} (hQ : ∀ r M, Q r M → Q' r M) {K K' : am_F → am_M → Prop} (hK : ∀ F M, K F M → K' F M) {x : am_I} {F : am_F} {M : am_M} (h : am_ex call Q K x F M) : am_ex call' Q' K' x F M := by
  obtain ⟨pc, L, st, bc, bs⟩ := F
  obtain ⟨ins, nx, a, b, z⟩ := x
  cases ins
  case ifCond c o =>
    cases c <;> exact am_i_mono (fun _ _ k => am_if_mono (hK _ _) (hK _ _) k) h
  case if_icmp c o =>
    cases c <;> exact am_ii_mono (fun _ _ _ k => am_if_mono (hK _ _) (hK _ _) k) h
  case getfield i =>
    refine am_r_mono (fun _ _ k => am_on_mono (fun k => ?_) k) h
    revert k
    generalize am_fk (am_ty a b) = t
    intro k
    split at k
    · split at k
      · exact hK _ _ k
      · exact k
    · exact k
    · exact hK _ _ k
  case aaload =>
    refine am_ir_mono (fun _ _ _ k => am_on_mono (am_ix_mono (fun _ k => ?_)) k) h
    split at k
    · exact hK _ _ k
    · exact k.elim
  case putfield i =>
    revert h
    show (match am_fk (am_ty a b) with | 0 => _ | 1 => _ | 2 => _ | _ => False) → (match am_fk (am_ty a b) with | 0 => _ | 1 => _ | 2 => _ | _ => False)
    generalize am_fk (am_ty a b) = t
    intro h
    split at h
    · exact am_i_mono (fun _ _ k => am_r_mono (fun _ _ k => am_on_mono (hK _ _) k) k) h
    · exact am_i_mono (fun _ _ k => am_r_mono (fun _ _ k => am_on_mono (fun k => ⟨k.1, hK _ _ k.2⟩) k) k) h
    · exact am_r_mono (fun _ _ k => am_r_mono (fun _ _ k => am_on_mono (hK _ _) k) k) h
    · exact h.elim
  case newarray t =>
    cases t
    case int => exact am_i_mono (fun _ _ k => ⟨k.1, k.2.1, k.2.2.1, k.2.2.2.1, hK _ _ k.2.2.2.2⟩) h
    case boolean => exact am_i_mono (fun _ _ k => ⟨k.1, k.2.1, k.2.2.1, k.2.2.2.1, hK _ _ k.2.2.2.2⟩) h
    case long => exact am_i_mono (fun _ _ k => ⟨k.1, k.2.1, k.2.2.1, k.2.2.2.1, hK _ _ k.2.2.2.2⟩) h
    all_goals exact h.elim
  case new i => exact ⟨h.1, h.2.1, hK _ _ h.2.2⟩
  case anewarray i => exact am_i_mono (fun _ _ k => ⟨k.1, k.2.1, k.2.2.1, k.2.2.2.1, hK _ _ k.2.2.2.2⟩) h
  case multianewarray i j => exact am_ii_mono (fun _ _ _ k => ⟨k.1, k.2.1, k.2.2.1, k.2.2.2.1, hK _ _ k.2.2.2.2⟩) h
  case aastore => exact am_r_mono (fun _ _ k => am_ir_mono (fun _ _ _ k => am_on_mono (am_ix_mono (fun _ k => hK _ _ k)) k) k) h
  case getstatic i => exact am_on_mono (hK _ _) h
  case invokespecial i =>
    revert h
    show (match Nat.beq a 1000 with | true => _ | false => _) → (match Nat.beq a 1000 with | true => _ | false => _)
    generalize Nat.beq a 1000 = t
    intro h
    cases t
    · exact am_on_mono (am_call_mono hc hK) h
    · exact am_r_mono (fun _ _ k => am_on_mono (hK _ _) k) h
  case invokevirtual i =>
    revert h
    show (match Nat.beq a 1001 with | true => _ | false => _) → (match Nat.beq a 1001 with | true => _ | false => _)
    generalize Nat.beq a 1001 = t
    intro h
    cases t
    · exact am_on_mono (am_call_mono hc hK) h
    · exact am_r_mono (fun _ _ k => am_on_mono (fun k => ⟨k.1, k.2.1, hK _ _ k.2.2⟩) k) h
  case invokestatic i =>
    revert h
    show (match Nat.beq a 1002 with | true => _ | false => _) → (match Nat.beq a 1002 with | true => _ | false => _)
    generalize Nat.beq a 1002 = t
    intro h
    cases t
    · revert h
      show (match Nat.beq a 1003 with | true => _ | false => _) → (match Nat.beq a 1003 with | true => _ | false => _)
      generalize Nat.beq a 1003 = t
      intro h
      cases t
      · exact am_on_mono (am_call_mono hc hK) h
      · exact am_math_mono (fun _ _ k => am_on_mono (hK _ _) k) h
    · exact am_cp_mono (fun _ _ _ _ _ _ k => am_on_mono (fun k => ⟨k.1, k.2.1, k.2.2.1, k.2.2.2.1, k.2.2.2.2.1, hK _ _ k.2.2.2.2.2⟩) k) h
  case tableswitch d lo hi offs => exact am_i_mono (fun _ _ k => ⟨am_sw_mono (fun _ => hK _ _) k.1, fun q => hK _ _ (k.2 q)⟩) h
  case ireturn =>
    refine am_i_mono (fun x r k => am_on_mono (fun k => ?_) k) h
    revert k
    cases b with
    | zero => exact fun k => hQ _ _ k
    | succ b => exact fun k => ⟨k.1, hQ _ _ k.2⟩
  case lreturn => exact am_l_mono (fun _ _ k => am_on_mono (hQ _ _) k) h
  case return_ => exact am_on_mono (hQ _ _) h
  case iinc i n =>
    refine am_iload_mono (L := L) (i := i) (f := fun v => match v with | .int x => K (nx, am_st1 L i (.int (x + Int32.ofInt n)), st, bc, bs) M | _ => False) (g := fun v => match v with | .int x => K' (nx, am_st1 L i (.int (x + Int32.ofInt n)), st, bc, bs) M | _ => False) (fun v k => ?_) h
    cases v <;> first | exact hK _ _ k | exact k.elim
  case iload i => exact am_iload_mono (L := L) (i := i) (f := fun v => K (nx, L, v :: st, bc, bs) M) (g := fun v => K' (nx, L, v :: st, bc, bs) M) (fun _ k => hK _ _ k) h
  case iload_n i => exact am_iload_mono (L := L) (i := i) (f := fun v => K (nx, L, v :: st, bc, bs) M) (g := fun v => K' (nx, L, v :: st, bc, bs) M) (fun _ k => hK _ _ k) h
  case lload i => exact am_lload_mono (L := L) (i := i) (f := fun v => K (nx, L, v :: st, bc, bs) M) (g := fun v => K' (nx, L, v :: st, bc, bs) M) (fun _ k => hK _ _ k) h
  case lload_n i => exact am_lload_mono (L := L) (i := i) (f := fun v => K (nx, L, v :: st, bc, bs) M) (g := fun v => K' (nx, L, v :: st, bc, bs) M) (fun _ k => hK _ _ k) h
  case aload i => exact am_aload_mono (L := L) (i := i) (f := fun v => K (nx, L, v :: st, bc, bs) M) (g := fun v => K' (nx, L, v :: st, bc, bs) M) (fun _ k => hK _ _ k) h
  case aload_n i => exact am_aload_mono (L := L) (i := i) (f := fun v => K (nx, L, v :: st, bc, bs) M) (g := fun v => K' (nx, L, v :: st, bc, bs) M) (fun _ k => hK _ _ k) h
  all_goals first
    | exact hK _ _ h
    | exact am_ii_mono (fun _ _ _ k => hK _ _ k) h
    | exact am_ll_mono (fun _ _ _ k => hK _ _ k) h
    | exact am_i_mono (fun _ _ k => hK _ _ k) h
    | exact am_l_mono (fun _ _ k => hK _ _ k) h
    | exact am_i_mono (fun _ _ k => am_on_mono (hK _ _) k) h
    | exact am_l_mono (fun _ _ k => am_on_mono (hK _ _) k) h
    | exact am_r_mono (fun _ _ k => am_on_mono (hK _ _) k) h
    | exact am_v_mono (fun _ _ k => am_on_mono (hK _ _) k) h
    | exact am_v_mono (fun _ _ k => am_v_mono (fun _ _ k => am_on_mono (hK _ _) k) k) h
    | exact am_ii_mono (fun _ _ _ k => ⟨k.1, hK _ _ k.2⟩) h
    | exact am_ll_mono (fun _ _ _ k => ⟨k.1, hK _ _ k.2⟩) h
    | exact am_ir_mono (fun _ _ _ k => am_on_mono (am_ix_mono (fun _ k => hK _ _ k)) k) h
    | exact am_i_mono (fun _ _ k => am_ir_mono (fun _ _ _ k => am_on_mono (am_ix_mono (fun _ k => hK _ _ k)) k) k) h
    | exact am_l_mono (fun _ _ k => am_ir_mono (fun _ _ _ k => am_on_mono (am_ix_mono (fun _ k => hK _ _ k)) k) k) h
    | exact False.elim h
theorem am_step_mono {call call' : am_C} (hc : am_cm call call') {T : am_T} {Q Q' : am_Q} (hQ : ∀ r M, Q r M → Q' r M) {K K' : am_F → am_M → Prop} (hK : ∀ F M, K F M → K' F M) {F : am_F} {M : am_M} (h : am_step call T Q K F M) : am_step call' T Q' K' F M := by
  obtain ⟨pc, L, st, bc, bs⟩ := F
  unfold am_step at *
  dsimp only at *
  split at h
  · exact am_ex_mono hc hQ hK h
  · exact h.elim
theorem am_wp_step {call : am_C} (hc : am_cm call call) {T : am_T} {Q : am_Q} {F : am_F} {M : am_M} (h : am_step call T Q (am_wp call T Q) F M) : am_wp call T Q F M :=
  fun P hP => hP _ _ (am_step_mono hc (fun _ _ q => q) (fun _ _ k => k P hP) h)
theorem am_wp_mono {call call' : am_C} (hc : am_cm call call') {T : am_T} {Q Q' : am_Q} (hQ : ∀ r M, Q r M → Q' r M) {F : am_F} {M : am_M} (h : am_wp call T Q F M) : am_wp call' T Q' F M :=
  fun P hP => h P (fun F M s => hP F M (am_step_mono hc hQ (fun _ _ k => k) s))
theorem am_wp_run {call : am_C} (hc : am_cm call call) {T : am_T} {Q : am_Q} (stop : Nat → Bool) : ∀ (n : Nat) {F : am_F} {M : am_M}, am_run call T Q stop (am_wp call T Q) n F M → am_wp call T Q F M
  | 0, _, _, h => h
  | n + 1, (pc, L, st, bc, bs), M, h => by
    unfold am_run at h
    dsimp only at h
    split at h
    · exact h
    · exact am_wp_step hc (am_step_mono hc (fun _ _ q => q) (fun _ _ k => am_wp_run hc stop n k) h)
/-- the first step is taken, then on to a stop -/
theorem am_wp_go {call : am_C} (hc : am_cm call call) {T : am_T} {Q : am_Q} (stop : Nat → Bool) (n : Nat) {F : am_F} {M : am_M} (h : am_step call T Q (am_run call T Q stop (am_wp call T Q) n) F M) : am_wp call T Q F M :=
  am_wp_step hc (am_step_mono hc (fun _ _ q => q) (fun _ _ k => am_wp_run hc stop n k) h)
end
section
-- code tables of the small machine, by program out of the decode rows
def T_X0_init : am_T := [[some (.aload_n 0, 1, 0, 0, 0), some (.invokespecial 3, 4, 1000, 1, 0), none, none, some (.aload_n 0, 5, 0, 0, 0), some (.bipush 7, 7, 0, 0, 0), none, some (.newarray .int, 9, 0, 0, 0), none, some (.putfield 9, 12, 0, 3, 1), none, none, some (.aload_n 0, 13, 0, 0, 0), some (.bipush 7, 15, 0, 0, 0), none, some (.newarray .int, 17, 0, 0, 0)],
  [none, some (.putfield 15, 20, 0, 4, 1), none, none, some (.aload_n 0, 21, 0, 0, 0), some (.iconst 0, 22, 0, 0, 0), some (.putfield 18, 25, 0, 5, 0), none, none, some (.aload_n 0, 26, 0, 0, 0), some (.aload_n 1, 27, 0, 0, 0), some (.putfield 22, 30, 0, 0, 1), none, none, some (.aload_n 0, 31, 0, 0, 0), some (.aload_n 2, 32, 0, 0, 0)],
  [some (.putfield 26, 35, 0, 1, 1), none, none, some (.aload_n 0, 36, 0, 0, 0), some (.aload_n 3, 37, 0, 0, 0), some (.putfield 30, 40, 0, 2, 1), none, none, some (.return_, 41, 0, 0, 0)]]
def T_X0_fill : am_T := [[some (.aload_n 0, 1, 0, 0, 0), some (.iconst 0, 2, 0, 0, 0), some (.putfield 18, 5, 0, 5, 0), none, none, some (.iconst 0, 6, 0, 0, 0), some (.istore 4, 8, 0, 0, 0), none, some (.iload 4, 10, 0, 0, 0), none, some (.aload_n 0, 11, 0, 0, 0), some (.getfield 22, 14, 0, 0, 0), none, none, some (.getfield 34, 17, 4, 4, 0), none],
  [none, some (.if_icmp .ge 51, 20, 68, 0, 0), none, none, some (.aload_n 0, 21, 0, 0, 0), some (.getfield 9, 24, 0, 3, 0), none, none, some (.iload 4, 26, 0, 0, 0), none, some (.iconst (-1), 27, 0, 0, 0), some (.iastore, 28, 0, 0, 0), some (.iload_n 2, 29, 0, 0, 0), some (.iload 4, 31, 0, 0, 0), none, some (.ishr, 32, 0, 0, 0)],
  [some (.iconst 1, 33, 0, 0, 0), some (.iand, 34, 0, 0, 0), some (.iconst 1, 35, 0, 0, 0), some (.if_icmp .ne 27, 38, 62, 0, 0), none, none, some (.aload_n 1, 39, 0, 0, 0), some (.iload 4, 41, 0, 0, 0), none, some (.iaload, 42, 0, 0, 0), some (.aload_n 0, 43, 0, 0, 0), some (.getfield 30, 46, 0, 2, 0), none, none, some (.getfield 39, 49, 6, 0, 0), none],
  [none, some (.iconst 0, 50, 0, 0, 0), some (.iaload, 51, 0, 0, 0), some (.if_icmp .ge 11, 54, 62, 0, 0), none, none, some (.aload_n 0, 55, 0, 0, 0), some (.iload 4, 57, 0, 0, 0), none, some (.aload_n 1, 58, 0, 0, 0), some (.iload_n 3, 59, 0, 0, 0), some (.invokevirtual 44, 62, 2, 4, 0), none, none, some (.iinc 4 1, 65, 0, 0, 0), none],
  [none, some (.goto (-57), 68, 8, 0, 0), none, none, some (.iconst 0, 69, 0, 0, 0), some (.istore 4, 71, 0, 0, 0), none, some (.iload 4, 73, 0, 0, 0), none, some (.aload_n 0, 74, 0, 0, 0), some (.getfield 18, 77, 0, 5, 0), none, none, some (.if_icmp .ge 23, 80, 100, 0, 0), none, none],
  [some (.aload_n 0, 81, 0, 0, 0), some (.getfield 9, 84, 0, 3, 0), none, none, some (.aload_n 0, 85, 0, 0, 0), some (.getfield 15, 88, 0, 4, 0), none, none, some (.iload 4, 90, 0, 0, 0), none, some (.iaload, 91, 0, 0, 0), some (.iload 4, 93, 0, 0, 0), none, some (.iastore, 94, 0, 0, 0), some (.iinc 4 1, 97, 0, 0, 0), none],
  [none, some (.goto (-26), 100, 71, 0, 0), none, none, some (.return_, 101, 0, 0, 0)]]
def T_X0_takeIn : am_T := [[some (.aload_n 0, 1, 0, 0, 0), some (.getfield 18, 4, 0, 5, 0), none, none, some (.istore 4, 6, 0, 0, 0), none, some (.iload 4, 8, 0, 0, 0), none, some (.ifCond .le 46, 11, 54, 0, 0), none, none, some (.aload_n 2, 12, 0, 0, 0), some (.aload_n 0, 13, 0, 0, 0), some (.getfield 15, 16, 0, 4, 0), none, none],
  [some (.iload 4, 18, 0, 0, 0), none, some (.iconst 1, 19, 0, 0, 0), some (.isub, 20, 0, 0, 0), some (.iaload, 21, 0, 0, 0), some (.iaload, 22, 0, 0, 0), some (.aload_n 2, 23, 0, 0, 0), some (.iload_n 1, 24, 0, 0, 0), some (.iaload, 25, 0, 0, 0), some (.iload_n 3, 26, 0, 0, 0), some (.invokestatic 48, 29, 3, 3, 0), none, none, some (.ifCond .eq 25, 32, 54, 0, 0), none, none],
  [some (.aload_n 0, 33, 0, 0, 0), some (.getfield 15, 36, 0, 4, 0), none, none, some (.iload 4, 38, 0, 0, 0), none, some (.aload_n 0, 39, 0, 0, 0), some (.getfield 15, 42, 0, 4, 0), none, none, some (.iload 4, 44, 0, 0, 0), none, some (.iconst 1, 45, 0, 0, 0), some (.isub, 46, 0, 0, 0), some (.iaload, 47, 0, 0, 0), some (.iastore, 48, 0, 0, 0)],
  [some (.iinc 4 (-1), 51, 0, 0, 0), none, none, some (.goto (-45), 54, 6, 0, 0), none, none, some (.aload_n 0, 55, 0, 0, 0), some (.getfield 15, 58, 0, 4, 0), none, none, some (.iload 4, 60, 0, 0, 0), none, some (.iload_n 1, 61, 0, 0, 0), some (.iastore, 62, 0, 0, 0), some (.aload_n 0, 63, 0, 0, 0), some (.dup, 64, 0, 0, 0)],
  [some (.getfield 18, 67, 0, 5, 0), none, none, some (.iconst 1, 68, 0, 0, 0), some (.iadd, 69, 0, 0, 0), some (.putfield 18, 72, 0, 5, 0), none, none, some (.return_, 73, 0, 0, 0)]]
def T_X0_movesUp : am_T := [[some (.iload_n 2, 1, 0, 0, 0), some (.ifCond .ne 16, 4, 17, 0, 0), none, none, some (.iload_n 0, 5, 0, 0, 0), some (.iload_n 1, 6, 0, 0, 0), some (.if_icmp .le 7, 9, 13, 0, 0), none, none, some (.iconst 1, 10, 0, 0, 0), some (.goto 17, 13, 27, 0, 0), none, none, some (.iconst 0, 14, 0, 0, 0), some (.goto 13, 17, 27, 0, 0), none],
  [none, some (.iload_n 0, 18, 0, 0, 0), some (.iload_n 1, 19, 0, 0, 0), some (.if_icmp .gt 7, 22, 26, 0, 0), none, none, some (.iconst 1, 23, 0, 0, 0), some (.goto 4, 26, 27, 0, 0), none, none, some (.iconst 0, 27, 0, 0, 0), some (.ireturn, 28, 0, 1, 0)]]
def T_X0_worth : am_T := [[some (.aload_n 0, 1, 0, 0, 0), some (.getfield 30, 4, 0, 2, 0), none, none, some (.getfield 39, 7, 6, 0, 0), none, none, some (.iconst 4, 8, 0, 0, 0), some (.iaload, 9, 0, 0, 0), some (.aload_n 0, 10, 0, 0, 0), some (.getfield 26, 13, 0, 1, 0), none, none, some (.aload_n 0, 14, 0, 0, 0), some (.getfield 22, 17, 0, 0, 0), none],
  [none, some (.getfield 52, 20, 4, 1, 0), none, none, some (.iload_n 1, 21, 0, 0, 0), some (.iaload, 22, 0, 0, 0), some (.iload_n 2, 23, 0, 0, 0), some (.invokevirtual 55, 26, 35, 3, 0), none, none, some (.imul, 27, 0, 0, 0), some (.istore_n 3, 28, 0, 0, 0), some (.aload_n 0, 29, 0, 0, 0), some (.getfield 9, 32, 0, 3, 0), none, none],
  [some (.iload_n 1, 33, 0, 0, 0), some (.iaload, 34, 0, 0, 0), some (.istore 4, 36, 0, 0, 0), none, some (.iload 4, 38, 0, 0, 0), none, some (.iconst (-1), 39, 0, 0, 0), some (.if_icmp .ne 6, 42, 45, 0, 0), none, none, some (.iload_n 3, 43, 0, 0, 0), some (.ineg, 44, 0, 0, 0), some (.ireturn, 45, 0, 0, 0), some (.aload_n 0, 46, 0, 0, 0), some (.getfield 30, 49, 0, 2, 0), none],
  [none, some (.iload 4, 51, 0, 0, 0), none, some (.aload_n 0, 52, 0, 0, 0), some (.getfield 22, 55, 0, 0, 0), none, none, some (.getfield 61, 58, 4, 2, 0), none, none, some (.iload_n 1, 59, 0, 0, 0), some (.iaload, 60, 0, 0, 0), some (.invokevirtual 64, 63, 38, 3, 0), none, none, some (.aload_n 0, 64, 0, 0, 0)],
  [some (.iload_n 1, 65, 0, 0, 0), some (.iload 4, 67, 0, 0, 0), none, some (.invokevirtual 67, 70, 5, 3, 0), none, none, some (.iadd, 71, 0, 0, 0), some (.iload_n 3, 72, 0, 0, 0), some (.isub, 73, 0, 0, 0), some (.ireturn, 74, 0, 0, 0)]]
def T_X0_loveBeside : am_T := [[some (.iconst 1, 1, 0, 0, 0), some (.aload_n 0, 2, 0, 0, 0), some (.getfield 30, 5, 0, 2, 0), none, none, some (.getfield 39, 8, 6, 0, 0), none, none, some (.iconst 2, 9, 0, 0, 0), some (.iaload, 10, 0, 0, 0), some (.invokestatic 70, 13, 1003, 2, 0), none, none, some (.istore_n 3, 14, 0, 0, 0), some (.iload_n 2, 15, 0, 0, 0), some (.iload_n 2, 16, 0, 0, 0)],
  [some (.iload_n 3, 17, 0, 0, 0), some (.irem, 18, 0, 0, 0), some (.isub, 19, 0, 0, 0), some (.istore 4, 21, 0, 0, 0), none, some (.iconst 0, 22, 0, 0, 0), some (.istore 5, 24, 0, 0, 0), none, some (.iload 4, 26, 0, 0, 0), none, some (.istore 6, 28, 0, 0, 0), none, some (.iload 6, 30, 0, 0, 0), none, some (.iload 4, 32, 0, 0, 0), none],
  [some (.iload_n 3, 33, 0, 0, 0), some (.iadd, 34, 0, 0, 0), some (.if_icmp .ge 40, 37, 74, 0, 0), none, none, some (.iload 6, 39, 0, 0, 0), none, some (.aload_n 0, 40, 0, 0, 0), some (.getfield 18, 43, 0, 5, 0), none, none, some (.if_icmp .ge 31, 46, 74, 0, 0), none, none, some (.iload 5, 48, 0, 0, 0), none],
  [some (.aload_n 0, 49, 0, 0, 0), some (.getfield 30, 52, 0, 2, 0), none, none, some (.getfield 75, 55, 6, 1, 0), none, none, some (.iload_n 1, 56, 0, 0, 0), some (.aaload, 57, 1, 0, 0), some (.aload_n 0, 58, 0, 0, 0), some (.getfield 15, 61, 0, 4, 0), none, none, some (.iload 6, 63, 0, 0, 0), none, some (.iaload, 64, 0, 0, 0)],
  [some (.iaload, 65, 0, 0, 0), some (.iadd, 66, 0, 0, 0), some (.istore 5, 68, 0, 0, 0), none, some (.iinc 6 1, 71, 0, 0, 0), none, none, some (.goto (-43), 74, 28, 0, 0), none, none, some (.iload 5, 76, 0, 0, 0), none, some (.ireturn, 77, 0, 0, 0)]]
def T_X0_swap : am_T := [[some (.aload_n 0, 1, 0, 0, 0), some (.getfield 9, 4, 0, 3, 0), none, none, some (.iload_n 1, 5, 0, 0, 0), some (.iaload, 6, 0, 0, 0), some (.istore_n 3, 7, 0, 0, 0), some (.aload_n 0, 8, 0, 0, 0), some (.getfield 9, 11, 0, 3, 0), none, none, some (.iload_n 2, 12, 0, 0, 0), some (.iaload, 13, 0, 0, 0), some (.istore 4, 15, 0, 0, 0), none, some (.iload_n 3, 16, 0, 0, 0)],
  [some (.iconst (-1), 17, 0, 0, 0), some (.if_icmp .eq 9, 20, 26, 0, 0), none, none, some (.iload 4, 22, 0, 0, 0), none, some (.iconst (-1), 23, 0, 0, 0), some (.if_icmp .ne 4, 26, 27, 0, 0), none, none, some (.return_, 27, 0, 0, 0), some (.aload_n 0, 28, 0, 0, 0), some (.getfield 9, 31, 0, 3, 0), none, none, some (.iload_n 1, 32, 0, 0, 0)],
  [some (.iload 4, 34, 0, 0, 0), none, some (.iastore, 35, 0, 0, 0), some (.aload_n 0, 36, 0, 0, 0), some (.getfield 9, 39, 0, 3, 0), none, none, some (.iload_n 2, 40, 0, 0, 0), some (.iload_n 3, 41, 0, 0, 0), some (.iastore, 42, 0, 0, 0), some (.aload_n 0, 43, 0, 0, 0), some (.getfield 15, 46, 0, 4, 0), none, none, some (.iload_n 3, 47, 0, 0, 0), some (.iload_n 2, 48, 0, 0, 0)],
  [some (.iastore, 49, 0, 0, 0), some (.aload_n 0, 50, 0, 0, 0), some (.getfield 15, 53, 0, 4, 0), none, none, some (.iload 4, 55, 0, 0, 0), none, some (.iload_n 1, 56, 0, 0, 0), some (.iastore, 57, 0, 0, 0), some (.return_, 58, 0, 0, 0)]]
def T_X0_pewsTaken : am_T := [[some (.aload_n 0, 1, 0, 0, 0), some (.getfield 18, 4, 0, 5, 0), none, none, some (.aload_n 0, 5, 0, 0, 0), some (.getfield 30, 8, 0, 2, 0), none, none, some (.invokevirtual 79, 11, 39, 1, 0), none, none, some (.iadd, 12, 0, 0, 0), some (.iconst 1, 13, 0, 0, 0), some (.isub, 14, 0, 0, 0), some (.aload_n 0, 15, 0, 0, 0), some (.getfield 30, 18, 0, 2, 0)],
  [none, none, some (.invokevirtual 79, 21, 39, 1, 0), none, none, some (.idiv, 22, 0, 0, 0), some (.ireturn, 23, 0, 0, 0)]]
def T_X1_init : am_T := [[some (.aload_n 0, 1, 0, 0, 0), some (.invokespecial 3, 4, 1000, 1, 0), none, none, some (.aload_n 0, 5, 0, 0, 0), some (.bipush 8, 7, 0, 0, 0), none, some (.newarray .int, 9, 0, 0, 0), none, some (.putfield 9, 12, 1, 0, 1), none, none, some (.aload_n 0, 13, 0, 0, 0), some (.bipush 8, 15, 0, 0, 0), none, some (.newarray .int, 17, 0, 0, 0)],
  [none, some (.putfield 15, 20, 1, 1, 1), none, none, some (.aload_n 0, 21, 0, 0, 0), some (.bipush 8, 23, 0, 0, 0), none, some (.newarray .int, 25, 0, 0, 0), none, some (.putfield 18, 28, 1, 2, 1), none, none, some (.aload_n 0, 29, 0, 0, 0), some (.iconst 0, 30, 0, 0, 0), some (.putfield 21, 33, 1, 3, 0), none],
  [none, some (.return_, 34, 0, 0, 0)]]
def T_X1_add : am_T := [[some (.aload_n 0, 1, 0, 0, 0), some (.getfield 21, 4, 1, 3, 0), none, none, some (.bipush 8, 6, 0, 0, 0), none, some (.if_icmp .ge 43, 9, 49, 0, 0), none, none, some (.aload_n 0, 10, 0, 0, 0), some (.getfield 9, 13, 1, 0, 0), none, none, some (.aload_n 0, 14, 0, 0, 0), some (.getfield 21, 17, 1, 3, 0), none],
  [none, some (.iload_n 1, 18, 0, 0, 0), some (.iastore, 19, 0, 0, 0), some (.aload_n 0, 20, 0, 0, 0), some (.getfield 15, 23, 1, 1, 0), none, none, some (.aload_n 0, 24, 0, 0, 0), some (.getfield 21, 27, 1, 3, 0), none, none, some (.iload_n 2, 28, 0, 0, 0), some (.iastore, 29, 0, 0, 0), some (.aload_n 0, 30, 0, 0, 0), some (.getfield 18, 33, 1, 2, 0), none],
  [none, some (.aload_n 0, 34, 0, 0, 0), some (.getfield 21, 37, 1, 3, 0), none, none, some (.iload_n 3, 38, 0, 0, 0), some (.iastore, 39, 0, 0, 0), some (.aload_n 0, 40, 0, 0, 0), some (.dup, 41, 0, 0, 0), some (.getfield 21, 44, 1, 3, 0), none, none, some (.iconst 1, 45, 0, 0, 0), some (.iadd, 46, 0, 0, 0), some (.putfield 21, 49, 1, 3, 0), none],
  [none, some (.return_, 50, 0, 0, 0)]]
def T_X2_init : am_T := [[some (.aload_n 0, 1, 0, 0, 0), some (.invokespecial 3, 4, 1000, 1, 0), none, none, some (.aload_n 0, 5, 0, 0, 0), some (.bipush 7, 7, 0, 0, 0), none, some (.newarray .int, 9, 0, 0, 0), none, some (.putfield 9, 12, 2, 2, 1), none, none, some (.aload_n 0, 13, 0, 0, 0), some (.iconst 0, 14, 0, 0, 0), some (.putfield 15, 17, 2, 3, 0), none],
  [none, some (.aload_n 0, 18, 0, 0, 0), some (.iconst 0, 19, 0, 0, 0), some (.newarray .int, 21, 0, 0, 0), none, some (.putfield 19, 24, 2, 4, 0), none, none, some (.aload_n 0, 25, 0, 0, 0), some (.iconst 1, 26, 0, 0, 0), some (.putfield 22, 29, 2, 5, 0), none, none, some (.aload_n 0, 30, 0, 0, 0), some (.iconst 0, 31, 0, 0, 0), some (.putfield 25, 34, 2, 6, 0)],
  [none, none, some (.aload_n 0, 35, 0, 0, 0), some (.iconst (-1), 36, 0, 0, 0), some (.putfield 28, 39, 2, 7, 0), none, none, some (.aload_n 0, 40, 0, 0, 0), some (.iload_n 1, 41, 0, 0, 0), some (.putfield 31, 44, 2, 0, 1), none, none, some (.aload_n 0, 45, 0, 0, 0), some (.iconst 1, 46, 0, 0, 0), some (.iload_n 1, 47, 0, 0, 0), some (.ishl, 48, 0, 0, 0)],
  [some (.iconst 1, 49, 0, 0, 0), some (.isub, 50, 0, 0, 0), some (.putfield 34, 53, 2, 1, 1), none, none, some (.return_, 54, 0, 0, 0)]]
def T_X2_open : am_T := [[some (.aload_n 0, 1, 0, 0, 0), some (.iload_n 1, 2, 0, 0, 0), some (.putfield 15, 5, 2, 3, 0), none, none, some (.iconst 0, 6, 0, 0, 0), some (.istore_n 3, 7, 0, 0, 0), some (.iload_n 3, 8, 0, 0, 0), some (.iload_n 1, 9, 0, 0, 0), some (.if_icmp .ge 33, 12, 42, 0, 0), none, none, some (.aload_n 0, 13, 0, 0, 0), some (.getfield 9, 16, 2, 2, 0), none, none],
  [some (.iload_n 3, 17, 0, 0, 0), some (.aload_n 0, 18, 0, 0, 0), some (.getfield 31, 21, 2, 0, 0), none, none, some (.iload_n 2, 22, 0, 0, 0), some (.ifCond .eq 11, 25, 33, 0, 0), none, none, some (.iload_n 1, 26, 0, 0, 0), some (.iconst 1, 27, 0, 0, 0), some (.isub, 28, 0, 0, 0), some (.iload_n 3, 29, 0, 0, 0), some (.isub, 30, 0, 0, 0), some (.goto 4, 33, 34, 0, 0), none],
  [none, some (.iload_n 3, 34, 0, 0, 0), some (.imul, 35, 0, 0, 0), some (.iastore, 36, 0, 0, 0), some (.iinc 3 1, 39, 0, 0, 0), none, none, some (.goto (-32), 42, 7, 0, 0), none, none, some (.aload_n 0, 43, 0, 0, 0), some (.iconst 1, 44, 0, 0, 0), some (.aload_n 0, 45, 0, 0, 0), some (.getfield 31, 48, 2, 0, 0), none, none],
  [some (.iload_n 1, 49, 0, 0, 0), some (.imul, 50, 0, 0, 0), some (.ishl, 51, 0, 0, 0), some (.putfield 22, 54, 2, 5, 0), none, none, some (.aload_n 0, 55, 0, 0, 0), some (.getfield 19, 58, 2, 4, 0), none, none, some (.arraylength, 59, 0, 0, 0), some (.aload_n 0, 60, 0, 0, 0), some (.getfield 22, 63, 2, 5, 0), none, none, some (.iload_n 1, 64, 0, 0, 0)],
  [some (.imul, 65, 0, 0, 0), some (.if_icmp .ge 15, 68, 80, 0, 0), none, none, some (.aload_n 0, 69, 0, 0, 0), some (.aload_n 0, 70, 0, 0, 0), some (.getfield 22, 73, 2, 5, 0), none, none, some (.iload_n 1, 74, 0, 0, 0), some (.imul, 75, 0, 0, 0), some (.newarray .int, 77, 0, 0, 0), none, some (.putfield 19, 80, 2, 4, 0), none, none],
  [some (.return_, 81, 0, 0, 0)]]
def T_X2_choice : am_T := [[some (.iload_n 1, 1, 0, 0, 0), some (.aload_n 0, 2, 0, 0, 0), some (.getfield 9, 5, 2, 2, 0), none, none, some (.iload_n 2, 6, 0, 0, 0), some (.iaload, 7, 0, 0, 0), some (.ishr, 8, 0, 0, 0), some (.aload_n 0, 9, 0, 0, 0), some (.getfield 34, 12, 2, 1, 0), none, none, some (.iand, 13, 0, 0, 0), some (.ireturn, 14, 0, 0, 0)]]
def T_X2_note : am_T := [[some (.aload_n 0, 1, 0, 0, 0), some (.getfield 19, 4, 2, 4, 0), none, none, some (.iload_n 1, 5, 0, 0, 0), some (.aload_n 0, 6, 0, 0, 0), some (.getfield 15, 9, 2, 3, 0), none, none, some (.imul, 10, 0, 0, 0), some (.iload_n 2, 11, 0, 0, 0), some (.iadd, 12, 0, 0, 0), some (.iload_n 3, 13, 0, 0, 0), some (.iastore, 14, 0, 0, 0), some (.return_, 15, 0, 0, 0)]]
def T_X2_settle : am_T := [[some (.aload_n 0, 1, 0, 0, 0), some (.iconst 0, 2, 0, 0, 0), some (.putfield 25, 5, 2, 6, 0), none, none, some (.aload_n 0, 6, 0, 0, 0), some (.iconst (-1), 7, 0, 0, 0), some (.putfield 28, 10, 2, 7, 0), none, none, some (.iconst 0, 11, 0, 0, 0), some (.istore_n 1, 12, 0, 0, 0), some (.iload_n 1, 13, 0, 0, 0), some (.aload_n 0, 14, 0, 0, 0), some (.getfield 22, 17, 2, 5, 0), none],
  [none, some (.if_icmp .ge 39, 20, 56, 0, 0), none, none, some (.aload_n 0, 21, 0, 0, 0), some (.iload_n 1, 22, 0, 0, 0), some (.invokevirtual 37, 25, 15, 2, 0), none, none, some (.ifCond .eq 25, 28, 50, 0, 0), none, none, some (.aload_n 0, 29, 0, 0, 0), some (.getfield 25, 32, 2, 6, 0), none, none],
  [some (.ifCond .ne 8, 35, 40, 0, 0), none, none, some (.aload_n 0, 36, 0, 0, 0), some (.iload_n 1, 37, 0, 0, 0), some (.putfield 28, 40, 2, 7, 0), none, none, some (.aload_n 0, 41, 0, 0, 0), some (.dup, 42, 0, 0, 0), some (.getfield 25, 45, 2, 6, 0), none, none, some (.iconst 1, 46, 0, 0, 0), some (.iadd, 47, 0, 0, 0), some (.putfield 25, 50, 2, 6, 0)],
  [none, none, some (.iinc 1 1, 53, 0, 0, 0), none, none, some (.goto (-41), 56, 12, 0, 0), none, none, some (.return_, 57, 0, 0, 0)]]
def T_X2_isStable : am_T := [[some (.iconst 0, 1, 0, 0, 0), some (.istore_n 2, 2, 0, 0, 0), some (.iload_n 2, 3, 0, 0, 0), some (.aload_n 0, 4, 0, 0, 0), some (.getfield 15, 7, 2, 3, 0), none, none, some (.if_icmp .ge 20, 10, 27, 0, 0), none, none, some (.aload_n 0, 11, 0, 0, 0), some (.iload_n 1, 12, 0, 0, 0), some (.iload_n 2, 13, 0, 0, 0), some (.invokevirtual 41, 16, 16, 3, 0), none, none],
  [some (.ifCond .eq 5, 19, 21, 0, 0), none, none, some (.iconst 0, 20, 0, 0, 0), some (.ireturn, 21, 0, 1, 0), some (.iinc 2 1, 24, 0, 0, 0), none, none, some (.goto (-22), 27, 2, 0, 0), none, none, some (.iconst 1, 28, 0, 0, 0), some (.ireturn, 29, 0, 1, 0)]]
def T_X2_wouldLeave : am_T := [[some (.aload_n 0, 1, 0, 0, 0), some (.getfield 19, 4, 2, 4, 0), none, none, some (.iload_n 1, 5, 0, 0, 0), some (.aload_n 0, 6, 0, 0, 0), some (.getfield 15, 9, 2, 3, 0), none, none, some (.imul, 10, 0, 0, 0), some (.iload_n 2, 11, 0, 0, 0), some (.iadd, 12, 0, 0, 0), some (.iaload, 13, 0, 0, 0), some (.istore_n 3, 14, 0, 0, 0), some (.aload_n 0, 15, 0, 0, 0), some (.getfield 9, 18, 2, 2, 0)],
  [none, none, some (.iload_n 2, 19, 0, 0, 0), some (.iaload, 20, 0, 0, 0), some (.istore 4, 22, 0, 0, 0), none, some (.iload_n 1, 23, 0, 0, 0), some (.aload_n 0, 24, 0, 0, 0), some (.getfield 34, 27, 2, 1, 0), none, none, some (.iload 4, 29, 0, 0, 0), none, some (.ishl, 30, 0, 0, 0), some (.iconst (-1), 31, 0, 0, 0), some (.ixor, 32, 0, 0, 0)],
  [some (.iand, 33, 0, 0, 0), some (.istore 5, 35, 0, 0, 0), none, some (.iconst 0, 36, 0, 0, 0), some (.istore 6, 38, 0, 0, 0), none, some (.iload 6, 40, 0, 0, 0), none, some (.aload_n 0, 41, 0, 0, 0), some (.getfield 34, 44, 2, 1, 0), none, none, some (.if_icmp .gt 39, 47, 83, 0, 0), none, none, some (.iload 5, 49, 0, 0, 0)],
  [none, some (.iload 6, 51, 0, 0, 0), none, some (.iload 4, 53, 0, 0, 0), none, some (.ishl, 54, 0, 0, 0), some (.ior, 55, 0, 0, 0), some (.istore 7, 57, 0, 0, 0), none, some (.aload_n 0, 58, 0, 0, 0), some (.getfield 19, 61, 2, 4, 0), none, none, some (.iload 7, 63, 0, 0, 0), none, some (.aload_n 0, 64, 0, 0, 0)],
  [some (.getfield 15, 67, 2, 3, 0), none, none, some (.imul, 68, 0, 0, 0), some (.iload_n 2, 69, 0, 0, 0), some (.iadd, 70, 0, 0, 0), some (.iaload, 71, 0, 0, 0), some (.iload_n 3, 72, 0, 0, 0), some (.if_icmp .le 5, 75, 77, 0, 0), none, none, some (.iconst 1, 76, 0, 0, 0), some (.ireturn, 77, 0, 1, 0), some (.iinc 6 1, 80, 0, 0, 0), none, none],
  [some (.goto (-42), 83, 38, 0, 0), none, none, some (.iconst 0, 84, 0, 0, 0), some (.ireturn, 85, 0, 1, 0)]]
def T_X3_init : am_T := [[some (.aload_n 0, 1, 0, 0, 0), some (.invokespecial 3, 4, 1000, 1, 0), none, none, some (.aload_n 0, 5, 0, 0, 0), some (.sipush 128, 8, 0, 0, 0), none, none, some (.newarray .int, 10, 0, 0, 0), none, some (.putfield 11, 13, 3, 0, 1), none, none, some (.aload_n 0, 14, 0, 0, 0), some (.sipush 128, 17, 0, 0, 0), none],
  [none, some (.newarray .int, 19, 0, 0, 0), none, some (.putfield 15, 22, 3, 1, 1), none, none, some (.aload_n 0, 23, 0, 0, 0), some (.bipush 7, 25, 0, 0, 0), none, some (.newarray .int, 27, 0, 0, 0), none, some (.putfield 18, 30, 3, 2, 1), none, none, some (.aload_n 0, 31, 0, 0, 0), some (.bipush 7, 33, 0, 0, 0)],
  [none, some (.newarray .int, 35, 0, 0, 0), none, some (.putfield 21, 38, 3, 3, 1), none, none, some (.aload_n 0, 39, 0, 0, 0), some (.iconst 0, 40, 0, 0, 0), some (.putfield 24, 43, 3, 4, 0), none, none, some (.aload_n 0, 44, 0, 0, 0), some (.iconst 0, 45, 0, 0, 0), some (.putfield 28, 48, 3, 5, 0), none, none],
  [some (.return_, 49, 0, 0, 0)]]
def T_X3_find : am_T := [[some (.aload_n 0, 1, 0, 0, 0), some (.iload_n 2, 2, 0, 0, 0), some (.putfield 24, 5, 3, 4, 0), none, none, some (.aload_n 0, 6, 0, 0, 0), some (.iconst 1, 7, 0, 0, 0), some (.aload_n 0, 8, 0, 0, 0), some (.getfield 24, 11, 3, 4, 0), none, none, some (.ishl, 12, 0, 0, 0), some (.iconst 1, 13, 0, 0, 0), some (.isub, 14, 0, 0, 0), some (.putfield 28, 17, 3, 5, 0), none],
  [none, some (.iconst 0, 18, 0, 0, 0), some (.istore 4, 20, 0, 0, 0), none, some (.iload 4, 22, 0, 0, 0), none, some (.aload_n 0, 23, 0, 0, 0), some (.getfield 24, 26, 3, 4, 0), none, none, some (.if_icmp .ge 28, 29, 54, 0, 0), none, none, some (.aload_n 0, 30, 0, 0, 0), some (.getfield 18, 33, 3, 2, 0), none],
  [none, some (.iload 4, 35, 0, 0, 0), none, some (.iconst 0, 36, 0, 0, 0), some (.iastore, 37, 0, 0, 0), some (.aload_n 0, 38, 0, 0, 0), some (.getfield 21, 41, 3, 3, 0), none, none, some (.iload 4, 43, 0, 0, 0), none, some (.aload_n 0, 44, 0, 0, 0), some (.getfield 28, 47, 3, 5, 0), none, none, some (.iastore, 48, 0, 0, 0)],
  [some (.iinc 4 1, 51, 0, 0, 0), none, none, some (.goto (-31), 54, 20, 0, 0), none, none, some (.iconst 1, 55, 0, 0, 0), some (.istore 4, 57, 0, 0, 0), none, some (.iconst 0, 58, 0, 0, 0), some (.istore 5, 60, 0, 0, 0), none, some (.iload 5, 62, 0, 0, 0), none, some (.aload_n 1, 63, 0, 0, 0), some (.getfield 31, 66, 1, 3, 0)],
  [none, none, some (.if_icmp .ge 50, 69, 116, 0, 0), none, none, some (.aload_n 0, 70, 0, 0, 0), some (.aload_n 1, 71, 0, 0, 0), some (.getfield 36, 74, 1, 0, 0), none, none, some (.iload 5, 76, 0, 0, 0), none, some (.iaload, 77, 0, 0, 0), some (.aload_n 1, 78, 0, 0, 0), some (.getfield 39, 81, 1, 1, 0), none],
  [none, some (.iload 5, 83, 0, 0, 0), none, some (.iaload, 84, 0, 0, 0), some (.aload_n 1, 85, 0, 0, 0), some (.getfield 42, 88, 1, 2, 0), none, none, some (.iload 5, 90, 0, 0, 0), none, some (.iaload, 91, 0, 0, 0), some (.iload_n 3, 92, 0, 0, 0), some (.invokevirtual 45, 95, 19, 5, 0), none, none, some (.ifCond .eq 12, 98, 107, 0, 0)],
  [none, none, some (.iload 4, 100, 0, 0, 0), none, some (.ifCond .eq 7, 103, 107, 0, 0), none, none, some (.iconst 1, 104, 0, 0, 0), some (.goto 4, 107, 108, 0, 0), none, none, some (.iconst 0, 108, 0, 0, 0), some (.istore 4, 110, 0, 0, 0), none, some (.iinc 5 1, 113, 0, 0, 0), none],
  [none, some (.goto (-53), 116, 60, 0, 0), none, none, some (.aload_n 0, 117, 0, 0, 0), some (.iload 4, 119, 0, 0, 0), none, some (.invokevirtual 49, 122, 21, 2, 0), none, none, some (.aload_n 0, 123, 0, 0, 0), some (.invokevirtual 53, 126, 22, 1, 0), none, none, some (.return_, 127, 0, 0, 0)]]
def T_X3_heed : am_T := [[some (.iload_n 2, 1, 0, 0, 0), some (.aload_n 0, 2, 0, 0, 0), some (.getfield 24, 5, 3, 4, 0), none, none, some (.if_icmp .lt 5, 8, 10, 0, 0), none, none, some (.iconst 0, 9, 0, 0, 0), some (.ireturn, 10, 0, 1, 0), some (.iload_n 1, 11, 0, 0, 0), some (.ifCond .ne 56, 14, 67, 0, 0), none, none, some (.iload 4, 16, 0, 0, 0), none],
  [some (.ifCond .ne 7, 19, 23, 0, 0), none, none, some (.iload_n 3, 20, 0, 0, 0), some (.goto 11, 23, 31, 0, 0), none, none, some (.aload_n 0, 24, 0, 0, 0), some (.getfield 24, 27, 3, 4, 0), none, none, some (.iconst 1, 28, 0, 0, 0), some (.isub, 29, 0, 0, 0), some (.iload_n 3, 30, 0, 0, 0), some (.isub, 31, 0, 0, 0), some (.istore 5, 33, 0, 0, 0)],
  [none, some (.aload_n 0, 34, 0, 0, 0), some (.getfield 21, 37, 3, 3, 0), none, none, some (.iload_n 2, 38, 0, 0, 0), some (.dup2, 39, 0, 0, 0), some (.iaload, 40, 0, 0, 0), some (.iload 5, 42, 0, 0, 0), none, some (.iconst 0, 43, 0, 0, 0), some (.aload_n 0, 44, 0, 0, 0), some (.getfield 24, 47, 3, 4, 0), none, none, some (.iconst 1, 48, 0, 0, 0)],
  [some (.isub, 49, 0, 0, 0), some (.invokestatic 56, 52, 88, 3, 0), none, none, some (.ifCond .eq 10, 55, 62, 0, 0), none, none, some (.iconst 1, 56, 0, 0, 0), some (.iload 5, 58, 0, 0, 0), none, some (.ishl, 59, 0, 0, 0), some (.goto 4, 62, 63, 0, 0), none, none, some (.iconst 0, 63, 0, 0, 0), some (.iand, 64, 0, 0, 0)],
  [some (.iastore, 65, 0, 0, 0), some (.iconst 1, 66, 0, 0, 0), some (.ireturn, 67, 0, 1, 0), some (.iload_n 3, 68, 0, 0, 0), some (.aload_n 0, 69, 0, 0, 0), some (.getfield 24, 72, 3, 4, 0), none, none, some (.if_icmp .lt 5, 75, 77, 0, 0), none, none, some (.iconst 0, 76, 0, 0, 0), some (.ireturn, 77, 0, 1, 0), some (.iload 4, 79, 0, 0, 0), none, some (.ifCond .ne 18, 82, 97, 0, 0)],
  [none, none, some (.aload_n 0, 83, 0, 0, 0), some (.getfield 18, 86, 3, 2, 0), none, none, some (.iload_n 2, 87, 0, 0, 0), some (.dup2, 88, 0, 0, 0), some (.iaload, 89, 0, 0, 0), some (.iconst 1, 90, 0, 0, 0), some (.iload_n 3, 91, 0, 0, 0), some (.ishl, 92, 0, 0, 0), some (.ior, 93, 0, 0, 0), some (.iastore, 94, 0, 0, 0), some (.goto 15, 97, 109, 0, 0), none],
  [none, some (.aload_n 0, 98, 0, 0, 0), some (.getfield 18, 101, 3, 2, 0), none, none, some (.iload_n 3, 102, 0, 0, 0), some (.dup2, 103, 0, 0, 0), some (.iaload, 104, 0, 0, 0), some (.iconst 1, 105, 0, 0, 0), some (.iload_n 2, 106, 0, 0, 0), some (.ishl, 107, 0, 0, 0), some (.ior, 108, 0, 0, 0), some (.iastore, 109, 0, 0, 0), some (.iconst 1, 110, 0, 0, 0), some (.ireturn, 111, 0, 1, 0)]]
def T_X3_mayCome : am_T := [[some (.iload_n 2, 1, 0, 0, 0), some (.iload_n 1, 2, 0, 0, 0), some (.ishr, 3, 0, 0, 0), some (.iconst 1, 4, 0, 0, 0), some (.iand, 5, 0, 0, 0), some (.ifCond .ne 37, 8, 42, 0, 0), none, none, some (.aload_n 0, 9, 0, 0, 0), some (.getfield 18, 12, 3, 2, 0), none, none, some (.iload_n 1, 13, 0, 0, 0), some (.iaload, 14, 0, 0, 0), some (.iload_n 2, 15, 0, 0, 0), some (.iconst (-1), 16, 0, 0, 0)],
  [some (.ixor, 17, 0, 0, 0), some (.iand, 18, 0, 0, 0), some (.ifCond .ne 24, 21, 42, 0, 0), none, none, some (.aload_n 0, 22, 0, 0, 0), some (.getfield 21, 25, 3, 3, 0), none, none, some (.iload_n 1, 26, 0, 0, 0), some (.iaload, 27, 0, 0, 0), some (.iload_n 2, 28, 0, 0, 0), some (.invokestatic 60, 31, 195, 1, 0), none, none, some (.ishr, 32, 0, 0, 0)],
  [some (.iconst 1, 33, 0, 0, 0), some (.iand, 34, 0, 0, 0), some (.iconst 1, 35, 0, 0, 0), some (.if_icmp .ne 7, 38, 42, 0, 0), none, none, some (.iconst 1, 39, 0, 0, 0), some (.goto 4, 42, 43, 0, 0), none, none, some (.iconst 0, 43, 0, 0, 0), some (.ireturn, 44, 0, 1, 0)]]
def T_X3_countWaysTo : am_T := [[some (.iconst 0, 1, 0, 0, 0), some (.istore_n 2, 2, 0, 0, 0), some (.iload_n 2, 3, 0, 0, 0), some (.aload_n 0, 4, 0, 0, 0), some (.getfield 28, 7, 3, 5, 0), none, none, some (.if_icmp .gt 16, 10, 23, 0, 0), none, none, some (.aload_n 0, 11, 0, 0, 0), some (.getfield 11, 14, 3, 0, 0), none, none, some (.iload_n 2, 15, 0, 0, 0), some (.iconst 0, 16, 0, 0, 0)],
  [some (.iastore, 17, 0, 0, 0), some (.iinc 2 1, 20, 0, 0, 0), none, none, some (.goto (-18), 23, 2, 0, 0), none, none, some (.aload_n 0, 24, 0, 0, 0), some (.getfield 11, 27, 3, 0, 0), none, none, some (.iconst 0, 28, 0, 0, 0), some (.iload_n 1, 29, 0, 0, 0), some (.ifCond .eq 7, 32, 36, 0, 0), none, none],
  [some (.iconst 1, 33, 0, 0, 0), some (.goto 4, 36, 37, 0, 0), none, none, some (.iconst 0, 37, 0, 0, 0), some (.iastore, 38, 0, 0, 0), some (.iconst 0, 39, 0, 0, 0), some (.istore_n 2, 40, 0, 0, 0), some (.iload_n 2, 41, 0, 0, 0), some (.aload_n 0, 42, 0, 0, 0), some (.getfield 28, 45, 3, 5, 0), none, none, some (.if_icmp .gt 62, 48, 107, 0, 0), none, none],
  [some (.iconst 0, 49, 0, 0, 0), some (.istore_n 3, 50, 0, 0, 0), some (.iload_n 3, 51, 0, 0, 0), some (.aload_n 0, 52, 0, 0, 0), some (.getfield 24, 55, 3, 4, 0), none, none, some (.if_icmp .ge 46, 58, 101, 0, 0), none, none, some (.aload_n 0, 59, 0, 0, 0), some (.getfield 11, 62, 3, 0, 0), none, none, some (.iload_n 2, 63, 0, 0, 0), some (.iaload, 64, 0, 0, 0)],
  [some (.ifCond .le 31, 67, 95, 0, 0), none, none, some (.aload_n 0, 68, 0, 0, 0), some (.iload_n 3, 69, 0, 0, 0), some (.iload_n 2, 70, 0, 0, 0), some (.invokevirtual 66, 73, 20, 3, 0), none, none, some (.ifCond .eq 22, 76, 95, 0, 0), none, none, some (.aload_n 0, 77, 0, 0, 0), some (.getfield 11, 80, 3, 0, 0), none, none],
  [some (.iload_n 2, 81, 0, 0, 0), some (.iconst 1, 82, 0, 0, 0), some (.iload_n 3, 83, 0, 0, 0), some (.ishl, 84, 0, 0, 0), some (.ior, 85, 0, 0, 0), some (.dup2, 86, 0, 0, 0), some (.iaload, 87, 0, 0, 0), some (.aload_n 0, 88, 0, 0, 0), some (.getfield 11, 91, 3, 0, 0), none, none, some (.iload_n 2, 92, 0, 0, 0), some (.iaload, 93, 0, 0, 0), some (.iadd, 94, 0, 0, 0), some (.iastore, 95, 0, 0, 0), some (.iinc 3 1, 98, 0, 0, 0)],
  [none, none, some (.goto (-48), 101, 50, 0, 0), none, none, some (.iinc 2 1, 104, 0, 0, 0), none, none, some (.goto (-64), 107, 40, 0, 0), none, none, some (.return_, 108, 0, 0, 0)]]
def T_X3_countWaysOn : am_T := [[some (.aload_n 0, 1, 0, 0, 0), some (.getfield 15, 4, 3, 1, 0), none, none, some (.aload_n 0, 5, 0, 0, 0), some (.getfield 28, 8, 3, 5, 0), none, none, some (.iconst 1, 9, 0, 0, 0), some (.iastore, 10, 0, 0, 0), some (.aload_n 0, 11, 0, 0, 0), some (.getfield 28, 14, 3, 5, 0), none, none, some (.iconst 1, 15, 0, 0, 0), some (.isub, 16, 0, 0, 0)],
  [some (.istore_n 1, 17, 0, 0, 0), some (.iload_n 1, 18, 0, 0, 0), some (.ifCond .lt 60, 21, 78, 0, 0), none, none, some (.aload_n 0, 22, 0, 0, 0), some (.getfield 15, 25, 3, 1, 0), none, none, some (.iload_n 1, 26, 0, 0, 0), some (.iconst 0, 27, 0, 0, 0), some (.iastore, 28, 0, 0, 0), some (.iconst 0, 29, 0, 0, 0), some (.istore_n 2, 30, 0, 0, 0), some (.iload_n 2, 31, 0, 0, 0), some (.aload_n 0, 32, 0, 0, 0)],
  [some (.getfield 24, 35, 3, 4, 0), none, none, some (.if_icmp .ge 37, 38, 72, 0, 0), none, none, some (.aload_n 0, 39, 0, 0, 0), some (.iload_n 2, 40, 0, 0, 0), some (.iload_n 1, 41, 0, 0, 0), some (.invokevirtual 66, 44, 20, 3, 0), none, none, some (.ifCond .eq 22, 47, 66, 0, 0), none, none, some (.aload_n 0, 48, 0, 0, 0)],
  [some (.getfield 15, 51, 3, 1, 0), none, none, some (.iload_n 1, 52, 0, 0, 0), some (.dup2, 53, 0, 0, 0), some (.iaload, 54, 0, 0, 0), some (.aload_n 0, 55, 0, 0, 0), some (.getfield 15, 58, 3, 1, 0), none, none, some (.iload_n 1, 59, 0, 0, 0), some (.iconst 1, 60, 0, 0, 0), some (.iload_n 2, 61, 0, 0, 0), some (.ishl, 62, 0, 0, 0), some (.ior, 63, 0, 0, 0), some (.iaload, 64, 0, 0, 0)],
  [some (.iadd, 65, 0, 0, 0), some (.iastore, 66, 0, 0, 0), some (.iinc 2 1, 69, 0, 0, 0), none, none, some (.goto (-39), 72, 30, 0, 0), none, none, some (.iinc 1 (-1), 75, 0, 0, 0), none, none, some (.goto (-58), 78, 17, 0, 0), none, none, some (.return_, 79, 0, 0, 0)]]
def T_X3_howMany : am_T := [[some (.aload_n 0, 1, 0, 0, 0), some (.getfield 11, 4, 3, 0, 0), none, none, some (.aload_n 0, 5, 0, 0, 0), some (.getfield 28, 8, 3, 5, 0), none, none, some (.iaload, 9, 0, 0, 0), some (.ireturn, 10, 0, 0, 0)]]
def T_X3_placesOf : am_T := [[some (.iconst 0, 1, 0, 0, 0), some (.istore_n 2, 2, 0, 0, 0), some (.iconst 0, 3, 0, 0, 0), some (.istore_n 3, 4, 0, 0, 0), some (.iload_n 3, 5, 0, 0, 0), some (.aload_n 0, 6, 0, 0, 0), some (.getfield 28, 9, 3, 5, 0), none, none, some (.if_icmp .gt 49, 12, 58, 0, 0), none, none, some (.aload_n 0, 13, 0, 0, 0), some (.getfield 11, 16, 3, 0, 0), none, none],
  [some (.iload_n 3, 17, 0, 0, 0), some (.iaload, 18, 0, 0, 0), some (.ifCond .le 34, 21, 52, 0, 0), none, none, some (.aload_n 0, 22, 0, 0, 0), some (.iload_n 1, 23, 0, 0, 0), some (.iload_n 3, 24, 0, 0, 0), some (.invokevirtual 66, 27, 20, 3, 0), none, none, some (.ifCond .eq 25, 30, 52, 0, 0), none, none, some (.aload_n 0, 31, 0, 0, 0), some (.getfield 15, 34, 3, 1, 0)],
  [none, none, some (.iload_n 3, 35, 0, 0, 0), some (.iconst 1, 36, 0, 0, 0), some (.iload_n 1, 37, 0, 0, 0), some (.ishl, 38, 0, 0, 0), some (.ior, 39, 0, 0, 0), some (.iaload, 40, 0, 0, 0), some (.ifCond .le 12, 43, 52, 0, 0), none, none, some (.iload_n 2, 44, 0, 0, 0), some (.iconst 1, 45, 0, 0, 0), some (.iload_n 3, 46, 0, 0, 0), some (.invokestatic 60, 49, 195, 1, 0), none],
  [none, some (.ishl, 50, 0, 0, 0), some (.ior, 51, 0, 0, 0), some (.istore_n 2, 52, 0, 0, 0), some (.iinc 3 1, 55, 0, 0, 0), none, none, some (.goto (-51), 58, 4, 0, 0), none, none, some (.iload_n 2, 59, 0, 0, 0), some (.ireturn, 60, 0, 0, 0)]]
def T_X3_surePairs : am_T := [[some (.iconst 0, 1, 0, 0, 0), some (.istore_n 1, 2, 0, 0, 0), some (.iconst 0, 3, 0, 0, 0), some (.istore_n 2, 4, 0, 0, 0), some (.iload_n 2, 5, 0, 0, 0), some (.aload_n 0, 6, 0, 0, 0), some (.getfield 24, 9, 3, 4, 0), none, none, some (.if_icmp .ge 45, 12, 54, 0, 0), none, none, some (.iload_n 2, 13, 0, 0, 0), some (.iconst 1, 14, 0, 0, 0), some (.iadd, 15, 0, 0, 0), some (.istore_n 3, 16, 0, 0, 0)],
  [some (.iload_n 3, 17, 0, 0, 0), some (.aload_n 0, 18, 0, 0, 0), some (.getfield 24, 21, 3, 4, 0), none, none, some (.if_icmp .ge 27, 24, 48, 0, 0), none, none, some (.aload_n 0, 25, 0, 0, 0), some (.iload_n 2, 26, 0, 0, 0), some (.iload_n 3, 27, 0, 0, 0), some (.invokevirtual 70, 30, 26, 3, 0), none, none, some (.aload_n 0, 31, 0, 0, 0), some (.iload_n 3, 32, 0, 0, 0)],
  [some (.iload_n 2, 33, 0, 0, 0), some (.invokevirtual 70, 36, 26, 3, 0), none, none, some (.if_icmp .eq 6, 39, 42, 0, 0), none, none, some (.iinc 1 1, 42, 0, 0, 0), none, none, some (.iinc 3 1, 45, 0, 0, 0), none, none, some (.goto (-29), 48, 16, 0, 0), none, none],
  [some (.iinc 2 1, 51, 0, 0, 0), none, none, some (.goto (-47), 54, 4, 0, 0), none, none, some (.iload_n 1, 55, 0, 0, 0), some (.ireturn, 56, 0, 0, 0)]]
def T_X3_canBeFirst : am_T := [[some (.iconst 0, 1, 0, 0, 0), some (.istore_n 3, 2, 0, 0, 0), some (.iload_n 3, 3, 0, 0, 0), some (.aload_n 0, 4, 0, 0, 0), some (.getfield 28, 7, 3, 5, 0), none, none, some (.if_icmp .gt 58, 10, 65, 0, 0), none, none, some (.iload_n 3, 11, 0, 0, 0), some (.iload_n 1, 12, 0, 0, 0), some (.ishr, 13, 0, 0, 0), some (.iconst 1, 14, 0, 0, 0), some (.iand, 15, 0, 0, 0), some (.iconst 1, 16, 0, 0, 0)],
  [some (.if_icmp .ne 15, 19, 31, 0, 0), none, none, some (.iload_n 3, 20, 0, 0, 0), some (.iload_n 2, 21, 0, 0, 0), some (.ishr, 22, 0, 0, 0), some (.iconst 1, 23, 0, 0, 0), some (.iand, 24, 0, 0, 0), some (.ifCond .ne 7, 27, 31, 0, 0), none, none, some (.iconst 1, 28, 0, 0, 0), some (.goto 4, 31, 32, 0, 0), none, none, some (.iconst 0, 32, 0, 0, 0)],
  [some (.istore 4, 34, 0, 0, 0), none, some (.iload 4, 36, 0, 0, 0), none, some (.ifCond .eq 23, 39, 59, 0, 0), none, none, some (.aload_n 0, 40, 0, 0, 0), some (.getfield 11, 43, 3, 0, 0), none, none, some (.iload_n 3, 44, 0, 0, 0), some (.iaload, 45, 0, 0, 0), some (.ifCond .le 14, 48, 59, 0, 0), none, none],
  [some (.aload_n 0, 49, 0, 0, 0), some (.getfield 15, 52, 3, 1, 0), none, none, some (.iload_n 3, 53, 0, 0, 0), some (.iaload, 54, 0, 0, 0), some (.ifCond .le 5, 57, 59, 0, 0), none, none, some (.iconst 1, 58, 0, 0, 0), some (.ireturn, 59, 0, 1, 0), some (.iinc 3 1, 62, 0, 0, 0), none, none, some (.goto (-60), 65, 2, 0, 0), none],
  [none, some (.iconst 0, 66, 0, 0, 0), some (.ireturn, 67, 0, 1, 0)]]
def T_X4_init : am_T := [[some (.aload_n 0, 1, 0, 0, 0), some (.invokespecial 3, 4, 1000, 1, 0), none, none, some (.aload_n 0, 5, 0, 0, 0), some (.bipush 40, 7, 0, 0, 0), none, some (.newarray .int, 9, 0, 0, 0), none, some (.putfield 9, 12, 4, 0, 1), none, none, some (.aload_n 0, 13, 0, 0, 0), some (.bipush 7, 15, 0, 0, 0), none, some (.newarray .int, 17, 0, 0, 0)],
  [none, some (.putfield 15, 20, 4, 1, 1), none, none, some (.aload_n 0, 21, 0, 0, 0), some (.bipush 7, 23, 0, 0, 0), none, some (.newarray .int, 25, 0, 0, 0), none, some (.putfield 18, 28, 4, 2, 1), none, none, some (.aload_n 0, 29, 0, 0, 0), some (.iconst 0, 30, 0, 0, 0), some (.putfield 21, 33, 4, 3, 0), none],
  [none, some (.aload_n 0, 34, 0, 0, 0), some (.iconst 0, 35, 0, 0, 0), some (.putfield 25, 38, 4, 4, 0), none, none, some (.aload_n 0, 39, 0, 0, 0), some (.iconst (-1), 40, 0, 0, 0), some (.putfield 28, 43, 4, 5, 0), none, none, some (.return_, 44, 0, 0, 0)]]
def T_X4_append : am_T := [[some (.aload_n 0, 1, 0, 0, 0), some (.getfield 21, 4, 4, 3, 0), none, none, some (.bipush 40, 6, 0, 0, 0), none, some (.if_icmp .ge 27, 9, 33, 0, 0), none, none, some (.aload_n 0, 10, 0, 0, 0), some (.getfield 9, 13, 4, 0, 0), none, none, some (.aload_n 0, 14, 0, 0, 0), some (.getfield 21, 17, 4, 3, 0), none],
  [none, some (.iload_n 1, 18, 0, 0, 0), some (.iastore, 19, 0, 0, 0), some (.aload_n 0, 20, 0, 0, 0), some (.dup, 21, 0, 0, 0), some (.getfield 21, 24, 4, 3, 0), none, none, some (.iconst 1, 25, 0, 0, 0), some (.iadd, 26, 0, 0, 0), some (.putfield 21, 29, 4, 3, 0), none, none, some (.aload_n 0, 30, 0, 0, 0), some (.invokevirtual 31, 33, 30, 1, 0), none],
  [none, some (.return_, 34, 0, 0, 0)]]
def T_X4_clear : am_T := [[some (.aload_n 0, 1, 0, 0, 0), some (.iconst 0, 2, 0, 0, 0), some (.putfield 21, 5, 4, 3, 0), none, none, some (.aload_n 0, 6, 0, 0, 0), some (.invokevirtual 31, 9, 30, 1, 0), none, none, some (.return_, 10, 0, 0, 0)]]
def T_X4_understand : am_T := [[some (.aload_n 0, 1, 0, 0, 0), some (.aload_n 0, 2, 0, 0, 0), some (.invokevirtual 34, 5, 31, 1, 0), none, none, some (.putfield 28, 8, 4, 5, 0), none, none, some (.aload_n 0, 9, 0, 0, 0), some (.aload_n 0, 10, 0, 0, 0), some (.getfield 28, 13, 4, 5, 0), none, none, some (.iconst (-1), 14, 0, 0, 0), some (.if_icmp .ne 14, 17, 28, 0, 0), none],
  [none, some (.aload_n 0, 18, 0, 0, 0), some (.getfield 21, 21, 4, 3, 0), none, none, some (.iconst 1, 22, 0, 0, 0), some (.iadd, 23, 0, 0, 0), some (.iconst 4, 24, 0, 0, 0), some (.idiv, 25, 0, 0, 0), some (.goto 4, 28, 29, 0, 0), none, none, some (.iconst 0, 29, 0, 0, 0), some (.putfield 25, 32, 4, 4, 0), none, none],
  [some (.iconst 0, 33, 0, 0, 0), some (.istore_n 1, 34, 0, 0, 0), some (.iload_n 1, 35, 0, 0, 0), some (.aload_n 0, 36, 0, 0, 0), some (.getfield 25, 39, 4, 4, 0), none, none, some (.if_icmp .ge 50, 42, 89, 0, 0), none, none, some (.aload_n 0, 43, 0, 0, 0), some (.getfield 15, 46, 4, 1, 0), none, none, some (.iload_n 1, 47, 0, 0, 0), some (.bipush 10, 49, 0, 0, 0)],
  [none, some (.aload_n 0, 50, 0, 0, 0), some (.iconst 4, 51, 0, 0, 0), some (.iload_n 1, 52, 0, 0, 0), some (.imul, 53, 0, 0, 0), some (.invokevirtual 38, 56, 33, 2, 0), none, none, some (.imul, 57, 0, 0, 0), some (.aload_n 0, 58, 0, 0, 0), some (.iconst 4, 59, 0, 0, 0), some (.iload_n 1, 60, 0, 0, 0), some (.imul, 61, 0, 0, 0), some (.iconst 1, 62, 0, 0, 0), some (.iadd, 63, 0, 0, 0), some (.invokevirtual 38, 66, 33, 2, 0)],
  [none, none, some (.iadd, 67, 0, 0, 0), some (.iastore, 68, 0, 0, 0), some (.aload_n 0, 69, 0, 0, 0), some (.getfield 18, 72, 4, 2, 0), none, none, some (.iload_n 1, 73, 0, 0, 0), some (.aload_n 0, 74, 0, 0, 0), some (.iconst 4, 75, 0, 0, 0), some (.iload_n 1, 76, 0, 0, 0), some (.imul, 77, 0, 0, 0), some (.iconst 2, 78, 0, 0, 0), some (.iadd, 79, 0, 0, 0), some (.invokevirtual 38, 82, 33, 2, 0)],
  [none, none, some (.iastore, 83, 0, 0, 0), some (.iinc 1 1, 86, 0, 0, 0), none, none, some (.goto (-52), 89, 34, 0, 0), none, none, some (.return_, 90, 0, 0, 0)]]
def T_X4_findFault : am_T := [[some (.iconst 0, 1, 0, 0, 0), some (.istore_n 1, 2, 0, 0, 0), some (.iload_n 1, 3, 0, 0, 0), some (.aload_n 0, 4, 0, 0, 0), some (.getfield 21, 7, 4, 3, 0), none, none, some (.if_icmp .ge 32, 10, 39, 0, 0), none, none, some (.iload_n 1, 11, 0, 0, 0), some (.bipush 28, 13, 0, 0, 0), none, some (.if_icmp .ge 18, 16, 31, 0, 0), none, none],
  [some (.aload_n 0, 17, 0, 0, 0), some (.getfield 9, 20, 4, 0, 0), none, none, some (.iload_n 1, 21, 0, 0, 0), some (.iaload, 22, 0, 0, 0), some (.iload_n 1, 23, 0, 0, 0), some (.iconst 4, 24, 0, 0, 0), some (.irem, 25, 0, 0, 0), some (.invokestatic 42, 28, 32, 2, 0), none, none, some (.ifCond .ne 5, 31, 33, 0, 0), none, none, some (.iload_n 1, 32, 0, 0, 0)],
  [some (.ireturn, 33, 0, 0, 0), some (.iinc 1 1, 36, 0, 0, 0), none, none, some (.goto (-34), 39, 2, 0, 0), none, none, some (.aload_n 0, 40, 0, 0, 0), some (.getfield 21, 43, 4, 3, 0), none, none, some (.ifCond .eq 13, 46, 56, 0, 0), none, none, some (.aload_n 0, 47, 0, 0, 0), some (.getfield 21, 50, 4, 3, 0)],
  [none, none, some (.iconst 4, 51, 0, 0, 0), some (.irem, 52, 0, 0, 0), some (.iconst 3, 53, 0, 0, 0), some (.if_icmp .ne 7, 56, 60, 0, 0), none, none, some (.iconst 1, 57, 0, 0, 0), some (.goto 4, 60, 61, 0, 0), none, none, some (.iconst 0, 61, 0, 0, 0), some (.istore_n 1, 62, 0, 0, 0), some (.iload_n 1, 63, 0, 0, 0), some (.ifCond .eq 7, 66, 70, 0, 0)],
  [none, none, some (.iconst (-1), 67, 0, 0, 0), some (.goto 7, 70, 74, 0, 0), none, none, some (.aload_n 0, 71, 0, 0, 0), some (.getfield 21, 74, 4, 3, 0), none, none, some (.ireturn, 75, 0, 0, 0)]]
def T_X4_fits : am_T := [[some (.iload_n 1, 1, 0, 0, 0), some (.tableswitch 54 0 2 #[27, 36, 45], 28, 0, 0, 0), none, none, none, none, none, none, none, none, none, none, none, none, none, none],
  [none, none, none, none, none, none, none, none, none, none, none, none, some (.iload_n 0, 29, 0, 0, 0), some (.bipush 48, 31, 0, 0, 0), none, some (.bipush 53, 33, 0, 0, 0)],
  [none, some (.invokestatic 46, 36, 88, 3, 0), none, none, some (.ireturn, 37, 0, 1, 0), some (.iload_n 0, 38, 0, 0, 0), some (.bipush 48, 40, 0, 0, 0), none, some (.bipush 57, 42, 0, 0, 0), none, some (.invokestatic 46, 45, 88, 3, 0), none, none, some (.ireturn, 46, 0, 1, 0), some (.iload_n 0, 47, 0, 0, 0), some (.bipush 48, 49, 0, 0, 0)],
  [none, some (.bipush 54, 51, 0, 0, 0), none, some (.invokestatic 46, 54, 88, 3, 0), none, none, some (.ireturn, 55, 0, 1, 0), some (.iload_n 0, 56, 0, 0, 0), some (.bipush 59, 58, 0, 0, 0), none, some (.if_icmp .ne 7, 61, 65, 0, 0), none, none, some (.iconst 1, 62, 0, 0, 0), some (.goto 4, 65, 66, 0, 0), none],
  [none, some (.iconst 0, 66, 0, 0, 0), some (.ireturn, 67, 0, 1, 0)]]
def T_X4_figure : am_T := [[some (.aload_n 0, 1, 0, 0, 0), some (.getfield 9, 4, 4, 0, 0), none, none, some (.iload_n 1, 5, 0, 0, 0), some (.iaload, 6, 0, 0, 0), some (.bipush 48, 8, 0, 0, 0), none, some (.isub, 9, 0, 0, 0), some (.ireturn, 10, 0, 0, 0)]]
def T_X5_init : am_T := [[some (.aload_n 0, 1, 0, 0, 0), some (.invokespecial 3, 4, 1000, 1, 0), none, none, some (.aload_n 0, 5, 0, 0, 0), some (.bipush 61, 7, 0, 0, 0), none, some (.newarray .int, 9, 0, 0, 0), none, some (.putfield 9, 12, 5, 0, 1), none, none, some (.return_, 13, 0, 0, 0)]]
def T_X5_between : am_T := [[some (.aload_n 0, 1, 0, 0, 0), some (.getfield 9, 4, 5, 0, 0), none, none, some (.iload_n 2, 5, 0, 0, 0), some (.iaload, 6, 0, 0, 0), some (.aload_n 0, 7, 0, 0, 0), some (.getfield 9, 10, 5, 0, 0), none, none, some (.iload_n 1, 11, 0, 0, 0), some (.iaload, 12, 0, 0, 0), some (.isub, 13, 0, 0, 0), some (.ireturn, 14, 0, 0, 0)]]
def T_X5_turn : am_T := [[some (.iload_n 2, 1, 0, 0, 0), some (.aload_n 0, 2, 0, 0, 0), some (.iload_n 1, 3, 0, 0, 0), some (.iload_n 1, 4, 0, 0, 0), some (.iconst 1, 5, 0, 0, 0), some (.iadd, 6, 0, 0, 0), some (.invokevirtual 15, 9, 35, 3, 0), none, none, some (.isub, 10, 0, 0, 0), some (.istore_n 3, 11, 0, 0, 0), some (.iload_n 1, 12, 0, 0, 0), some (.iconst 1, 13, 0, 0, 0), some (.iadd, 14, 0, 0, 0), some (.istore 4, 16, 0, 0, 0), none],
  [some (.iload 4, 18, 0, 0, 0), none, some (.bipush 60, 20, 0, 0, 0), none, some (.if_icmp .gt 20, 23, 40, 0, 0), none, none, some (.aload_n 0, 24, 0, 0, 0), some (.getfield 9, 27, 5, 0, 0), none, none, some (.iload 4, 29, 0, 0, 0), none, some (.dup2, 30, 0, 0, 0), some (.iaload, 31, 0, 0, 0), some (.iload_n 3, 32, 0, 0, 0)],
  [some (.iadd, 33, 0, 0, 0), some (.iastore, 34, 0, 0, 0), some (.iinc 4 1, 37, 0, 0, 0), none, none, some (.goto (-21), 40, 16, 0, 0), none, none, some (.return_, 41, 0, 0, 0)]]
def T_X6_init : am_T := [[some (.aload_n 0, 1, 0, 0, 0), some (.invokespecial 3, 4, 1000, 1, 0), none, none, some (.aload_n 0, 5, 0, 0, 0), some (.getstatic 9, 8, 2, 0, 1), none, none, some (.invokevirtual 13, 11, 1001, 1, 0), none, none, some (.checkcast 14, 14, 0, 0, 0), none, none, some (.putfield 18, 17, 6, 0, 1), none],
  [none, some (.aload_n 0, 18, 0, 0, 0), some (.bipush 7, 20, 0, 0, 0), none, some (.bipush 7, 22, 0, 0, 0), none, some (.multianewarray 23 2, 26, 0, 0, 0), none, none, none, some (.putfield 25, 29, 6, 1, 1), none, none, some (.return_, 30, 0, 0, 0)]]
def T_X6_seatWorth : am_T := [[some (.bipush 20, 2, 0, 0, 0), none, some (.aload_n 0, 3, 0, 0, 0), some (.getfield 18, 6, 6, 0, 0), none, none, some (.iconst 3, 7, 0, 0, 0), some (.iaload, 8, 0, 0, 0), some (.iload_n 1, 9, 0, 0, 0), some (.iload_n 2, 10, 0, 0, 0), some (.isub, 11, 0, 0, 0), some (.invokestatic 28, 14, 1003, 0, 0), none, none, some (.imul, 15, 0, 0, 0), some (.isub, 16, 0, 0, 0)],
  [some (.ireturn, 17, 0, 0, 0)]]
def T_X6_wide : am_T := [[some (.iconst 1, 1, 0, 0, 0), some (.aload_n 0, 2, 0, 0, 0), some (.getfield 18, 5, 6, 0, 0), none, none, some (.iconst 2, 6, 0, 0, 0), some (.iaload, 7, 0, 0, 0), some (.invokestatic 34, 10, 1003, 2, 0), none, none, some (.ireturn, 11, 0, 0, 0)]]
def T_X6_seatsBeside : am_T := [[some (.iload_n 1, 1, 0, 0, 0), some (.iload_n 1, 2, 0, 0, 0), some (.aload_n 0, 3, 0, 0, 0), some (.invokevirtual 38, 6, 39, 1, 0), none, none, some (.irem, 7, 0, 0, 0), some (.isub, 8, 0, 0, 0), some (.istore_n 3, 9, 0, 0, 0), some (.iload_n 2, 10, 0, 0, 0), some (.iload_n 3, 11, 0, 0, 0), some (.isub, 12, 0, 0, 0), some (.aload_n 0, 13, 0, 0, 0), some (.invokevirtual 38, 16, 39, 1, 0), none, none],
  [some (.invokestatic 42, 19, 1003, 4, 0), none, none, some (.iconst 1, 20, 0, 0, 0), some (.isub, 21, 0, 0, 0), some (.ireturn, 22, 0, 0, 0)]]
def T_X7_init : am_T := [[some (.aload_n 0, 1, 0, 0, 0), some (.invokespecial 3, 4, 1000, 1, 0), none, none, some (.aload_n 0, 5, 0, 0, 0), some (.bipush 60, 7, 0, 0, 0), none, some (.newarray .int, 9, 0, 0, 0), none, some (.putfield 9, 12, 7, 0, 1), none, none, some (.aload_n 0, 13, 0, 0, 0), some (.iconst (-1), 14, 0, 0, 0), some (.putfield 15, 17, 7, 1, 0), none],
  [none, some (.aload_n 0, 18, 0, 0, 0), some (.iconst 0, 19, 0, 0, 0), some (.putfield 19, 22, 7, 2, 0), none, none, some (.return_, 23, 0, 0, 0)]]
def T_X7_isLost : am_T := [[some (.aload_n 0, 1, 0, 0, 0), some (.getfield 15, 4, 7, 1, 0), none, none, some (.iconst (-1), 5, 0, 0, 0), some (.if_icmp .ne 7, 8, 12, 0, 0), none, none, some (.iconst 1, 9, 0, 0, 0), some (.goto 4, 12, 13, 0, 0), none, none, some (.iconst 0, 13, 0, 0, 0), some (.ireturn, 14, 0, 1, 0)]]
def T_X7_renew : am_T := [[some (.aload_n 0, 1, 0, 0, 0), some (.iload_n 1, 2, 0, 0, 0), some (.putfield 15, 5, 7, 1, 0), none, none, some (.aload_n 0, 6, 0, 0, 0), some (.iload_n 2, 7, 0, 0, 0), some (.putfield 19, 10, 7, 2, 0), none, none, some (.iconst 0, 11, 0, 0, 0), some (.istore_n 3, 12, 0, 0, 0), some (.iload_n 3, 13, 0, 0, 0), some (.bipush 60, 15, 0, 0, 0), none, some (.if_icmp .ge 16, 18, 31, 0, 0)],
  [none, none, some (.aload_n 0, 19, 0, 0, 0), some (.getfield 9, 22, 7, 0, 0), none, none, some (.iload_n 3, 23, 0, 0, 0), some (.iconst 0, 24, 0, 0, 0), some (.iastore, 25, 0, 0, 0), some (.iinc 3 1, 28, 0, 0, 0), none, none, some (.goto (-16), 31, 12, 0, 0), none, none, some (.return_, 32, 0, 0, 0)]]
def T_X7_findingAt : am_T := [[some (.aload_n 0, 1, 0, 0, 0), some (.invokevirtual 22, 4, 42, 1, 0), none, none, some (.ifCond .eq 5, 7, 9, 0, 0), none, none, some (.iconst 1, 8, 0, 0, 0), some (.ireturn, 9, 0, 0, 0), some (.iload_n 1, 10, 0, 0, 0), some (.aload_n 0, 11, 0, 0, 0), some (.getfield 15, 14, 7, 1, 0), none, none, some (.if_icmp .eq 5, 17, 19, 0, 0), none],
  [none, some (.iconst 3, 18, 0, 0, 0), some (.ireturn, 19, 0, 0, 0), some (.iload_n 2, 20, 0, 0, 0), some (.iconst 0, 21, 0, 0, 0), some (.aload_n 0, 22, 0, 0, 0), some (.getfield 19, 25, 7, 2, 0), none, none, some (.iconst 1, 26, 0, 0, 0), some (.isub, 27, 0, 0, 0), some (.invokestatic 26, 30, 88, 3, 0), none, none, some (.ifCond .eq 7, 33, 37, 0, 0), none],
  [none, some (.iconst 0, 34, 0, 0, 0), some (.goto 4, 37, 38, 0, 0), none, none, some (.iconst 2, 38, 0, 0, 0), some (.ireturn, 39, 0, 0, 0)]]
def T_X7_holds : am_T := [[some (.iload_n 1, 1, 0, 0, 0), some (.ifCond .lt 29, 4, 30, 0, 0), none, none, some (.iload_n 2, 5, 0, 0, 0), some (.ifCond .lt 25, 8, 30, 0, 0), none, none, some (.iload_n 1, 9, 0, 0, 0), some (.aload_n 0, 10, 0, 0, 0), some (.getfield 19, 13, 7, 2, 0), none, none, some (.if_icmp .gt 17, 16, 30, 0, 0), none, none],
  [some (.iload_n 2, 17, 0, 0, 0), some (.aload_n 0, 18, 0, 0, 0), some (.getfield 19, 21, 7, 2, 0), none, none, some (.iload_n 1, 22, 0, 0, 0), some (.isub, 23, 0, 0, 0), some (.if_icmp .gt 7, 26, 30, 0, 0), none, none, some (.iconst 1, 27, 0, 0, 0), some (.goto 4, 30, 31, 0, 0), none, none, some (.iconst 0, 31, 0, 0, 0), some (.ireturn, 32, 0, 1, 0)]]
def T_X7_put : am_T := [[some (.aload_n 0, 1, 0, 0, 0), some (.getfield 15, 4, 7, 1, 0), none, none, some (.ifCond .ne 14, 7, 18, 0, 0), none, none, some (.aload_n 0, 8, 0, 0, 0), some (.getfield 9, 11, 7, 0, 0), none, none, some (.iload_n 1, 12, 0, 0, 0), some (.iload_n 2, 13, 0, 0, 0), some (.i2b, 14, 0, 0, 0), some (.iastore, 15, 0, 0, 0), some (.goto 29, 18, 44, 0, 0)],
  [none, none, some (.aload_n 0, 19, 0, 0, 0), some (.getfield 15, 22, 7, 1, 0), none, none, some (.iconst 1, 23, 0, 0, 0), some (.if_icmp .ne 14, 26, 37, 0, 0), none, none, some (.aload_n 0, 27, 0, 0, 0), some (.getfield 9, 30, 7, 0, 0), none, none, some (.iload_n 1, 31, 0, 0, 0), some (.iload_n 2, 32, 0, 0, 0)],
  [some (.i2s, 33, 0, 0, 0), some (.iastore, 34, 0, 0, 0), some (.goto 10, 37, 44, 0, 0), none, none, some (.aload_n 0, 38, 0, 0, 0), some (.getfield 9, 41, 7, 0, 0), none, none, some (.iload_n 1, 42, 0, 0, 0), some (.iload_n 2, 43, 0, 0, 0), some (.iastore, 44, 0, 0, 0), some (.return_, 45, 0, 0, 0)]]
def T_X8_init : am_T := [[some (.aload_n 0, 1, 0, 0, 0), some (.invokespecial 3, 4, 1000, 1, 0), none, none, some (.aload_n 0, 5, 0, 0, 0), some (.bipush 7, 7, 0, 0, 0), none, some (.newarray .int, 9, 0, 0, 0), none, some (.putfield 9, 12, 8, 0, 1), none, none, some (.aload_n 0, 13, 0, 0, 0), some (.bipush 7, 15, 0, 0, 0), none, some (.newarray .int, 17, 0, 0, 0)],
  [none, some (.putfield 15, 20, 8, 1, 1), none, none, some (.aload_n 0, 21, 0, 0, 0), some (.iconst 0, 22, 0, 0, 0), some (.putfield 18, 25, 8, 2, 0), none, none, some (.return_, 26, 0, 0, 0)]]
def T_X8_add : am_T := [[some (.aload_n 0, 1, 0, 0, 0), some (.getfield 9, 4, 8, 0, 0), none, none, some (.iload_n 1, 5, 0, 0, 0), some (.dup2, 6, 0, 0, 0), some (.iaload, 7, 0, 0, 0), some (.iconst 1, 8, 0, 0, 0), some (.iadd, 9, 0, 0, 0), some (.iastore, 10, 0, 0, 0), some (.aload_n 0, 11, 0, 0, 0), some (.getfield 15, 14, 8, 1, 0), none, none, some (.iload_n 1, 15, 0, 0, 0), some (.dup2, 16, 0, 0, 0)],
  [some (.iaload, 17, 0, 0, 0), some (.iload_n 2, 18, 0, 0, 0), some (.iadd, 19, 0, 0, 0), some (.iastore, 20, 0, 0, 0), some (.aload_n 0, 21, 0, 0, 0), some (.dup, 22, 0, 0, 0), some (.getfield 18, 25, 8, 2, 0), none, none, some (.iconst 1, 26, 0, 0, 0), some (.iadd, 27, 0, 0, 0), some (.putfield 18, 30, 8, 2, 0), none, none, some (.return_, 31, 0, 0, 0)]]
def T_X8_chanceAbove : am_T := [[some (.aload_n 0, 1, 0, 0, 0), some (.getfield 15, 4, 8, 1, 0), none, none, some (.iload_n 1, 5, 0, 0, 0), some (.iaload, 6, 0, 0, 0), some (.iconst 1, 7, 0, 0, 0), some (.iadd, 8, 0, 0, 0), some (.ireturn, 9, 0, 0, 0)]]
def T_X8_chanceBelow : am_T := [[some (.aload_n 0, 1, 0, 0, 0), some (.getfield 9, 4, 8, 0, 0), none, none, some (.iload_n 1, 5, 0, 0, 0), some (.iaload, 6, 0, 0, 0), some (.iconst 2, 7, 0, 0, 0), some (.iadd, 8, 0, 0, 0), some (.ireturn, 9, 0, 0, 0)]]
def T_X9_init : am_T := [[some (.aload_n 0, 1, 0, 0, 0), some (.invokespecial 3, 4, 1000, 1, 0), none, none, some (.aload_n 0, 5, 0, 0, 0), some (.new 9, 8, 4, 6, 0), none, none, some (.dup, 9, 0, 0, 0), some (.invokespecial 11, 12, 27, 1, 1), none, none, some (.putfield 12, 15, 9, 0, 1), none, none, some (.aload_n 0, 16, 0, 0, 0)],
  [some (.new 16, 19, 5, 1, 0), none, none, some (.dup, 20, 0, 0, 0), some (.invokespecial 18, 23, 34, 1, 1), none, none, some (.putfield 19, 26, 9, 1, 1), none, none, some (.aload_n 0, 27, 0, 0, 0), some (.new 23, 30, 6, 2, 0), none, none, some (.dup, 31, 0, 0, 0), some (.invokespecial 25, 34, 37, 1, 1)],
  [none, none, some (.putfield 26, 37, 9, 2, 1), none, none, some (.aload_n 0, 38, 0, 0, 0), some (.bipush 7, 40, 0, 0, 0), none, some (.newarray .int, 42, 0, 0, 0), none, some (.putfield 30, 45, 9, 3, 1), none, none, some (.aload_n 0, 46, 0, 0, 0), some (.bipush 7, 48, 0, 0, 0), none],
  [some (.newarray .int, 50, 0, 0, 0), none, some (.putfield 34, 53, 9, 4, 1), none, none, some (.aload_n 0, 54, 0, 0, 0), some (.new 37, 57, 0, 6, 0), none, none, some (.dup, 58, 0, 0, 0), some (.aload_n 0, 59, 0, 0, 0), some (.getfield 12, 62, 9, 0, 0), none, none, some (.aload_n 0, 63, 0, 0, 0), some (.getfield 19, 66, 9, 1, 0)],
  [none, none, some (.aload_n 0, 67, 0, 0, 0), some (.getfield 26, 70, 9, 2, 0), none, none, some (.invokespecial 39, 73, 0, 4, 1), none, none, some (.putfield 42, 76, 9, 5, 1), none, none, some (.aload_n 0, 77, 0, 0, 0), some (.new 37, 80, 0, 6, 0), none, none],
  [some (.dup, 81, 0, 0, 0), some (.aload_n 0, 82, 0, 0, 0), some (.getfield 12, 85, 9, 0, 0), none, none, some (.aload_n 0, 86, 0, 0, 0), some (.getfield 19, 89, 9, 1, 0), none, none, some (.aload_n 0, 90, 0, 0, 0), some (.getfield 26, 93, 9, 2, 0), none, none, some (.invokespecial 39, 96, 0, 4, 1), none, none],
  [some (.putfield 46, 99, 9, 6, 1), none, none, some (.aload_n 0, 100, 0, 0, 0), some (.new 49, 103, 2, 8, 0), none, none, some (.dup, 104, 0, 0, 0), some (.iconst 2, 105, 0, 0, 0), some (.invokespecial 51, 108, 10, 2, 1), none, none, some (.putfield 54, 111, 9, 7, 1), none, none, some (.aload_n 0, 112, 0, 0, 0)],
  [some (.new 49, 115, 2, 8, 0), none, none, some (.dup, 116, 0, 0, 0), some (.iconst 1, 117, 0, 0, 0), some (.invokespecial 51, 120, 10, 2, 1), none, none, some (.putfield 58, 123, 9, 8, 1), none, none, some (.aload_n 0, 124, 0, 0, 0), some (.new 61, 127, 1, 4, 0), none, none, some (.dup, 128, 0, 0, 0)],
  [some (.invokespecial 63, 131, 8, 1, 1), none, none, some (.putfield 64, 134, 9, 9, 1), none, none, some (.aload_n 0, 135, 0, 0, 0), some (.new 68, 138, 3, 6, 0), none, none, some (.dup, 139, 0, 0, 0), some (.invokespecial 70, 142, 17, 1, 1), none, none, some (.putfield 71, 145, 9, 10, 1), none],
  [none, some (.aload_n 0, 146, 0, 0, 0), some (.new 75, 149, 8, 3, 0), none, none, some (.dup, 150, 0, 0, 0), some (.invokespecial 77, 153, 47, 1, 1), none, none, some (.putfield 78, 156, 9, 11, 1), none, none, some (.aload_n 0, 157, 0, 0, 0), some (.iconst 4, 158, 0, 0, 0), some (.anewarray 82, 161, 0, 0, 0), none],
  [none, some (.putfield 84, 164, 9, 12, 1), none, none, some (.aload_n 0, 165, 0, 0, 0), some (.iconst 0, 166, 0, 0, 0), some (.putfield 88, 169, 9, 13, 0), none, none, some (.aload_n 0, 170, 0, 0, 0), some (.iconst 0, 171, 0, 0, 0), some (.putfield 92, 174, 9, 14, 0), none, none, some (.aload_n 0, 175, 0, 0, 0), some (.iconst 0, 176, 0, 0, 0)],
  [some (.putfield 96, 179, 9, 15, 0), none, none, some (.aload_n 0, 180, 0, 0, 0), some (.iconst 0, 181, 0, 0, 0), some (.putfield 99, 184, 9, 16, 0), none, none, some (.iconst 0, 185, 0, 0, 0), some (.istore_n 1, 186, 0, 0, 0), some (.iload_n 1, 187, 0, 0, 0), some (.iconst 4, 188, 0, 0, 0), some (.if_icmp .ge 22, 191, 210, 0, 0), none, none, some (.aload_n 0, 192, 0, 0, 0)],
  [some (.getfield 84, 195, 9, 12, 0), none, none, some (.iload_n 1, 196, 0, 0, 0), some (.new 82, 199, 7, 3, 0), none, none, some (.dup, 200, 0, 0, 0), some (.invokespecial 102, 203, 41, 1, 1), none, none, some (.aastore, 204, 0, 0, 0), some (.iinc 1 1, 207, 0, 0, 0), none, none, some (.goto (-21), 210, 186, 0, 0)],
  [none, none, some (.return_, 211, 0, 0, 0)]]
def T_X9_type : am_T := [[some (.iload_n 1, 1, 0, 0, 0), some (.iconst 0, 2, 0, 0, 0), some (.sipush 255, 5, 0, 0, 0), none, none, some (.invokestatic 103, 8, 88, 3, 0), none, none, some (.ifCond .ne 6, 11, 14, 0, 0), none, none, some (.bipush (-2), 13, 0, 0, 0), none, some (.ireturn, 14, 0, 0, 0), some (.aload_n 0, 15, 0, 0, 0), some (.getfield 12, 18, 9, 0, 0)],
  [none, none, some (.getfield 107, 21, 4, 3, 0), none, none, some (.bipush 40, 23, 0, 0, 0), none, some (.if_icmp .lt 6, 26, 29, 0, 0), none, none, some (.bipush (-4), 28, 0, 0, 0), none, some (.ireturn, 29, 0, 0, 0), some (.aload_n 0, 30, 0, 0, 0), some (.getfield 12, 33, 9, 0, 0), none],
  [none, some (.iload_n 1, 34, 0, 0, 0), some (.invokevirtual 110, 37, 28, 2, 0), none, none, some (.aload_n 0, 38, 0, 0, 0), some (.invokevirtual 113, 41, 94, 1, 0), none, none, some (.aload_n 0, 42, 0, 0, 0), some (.getfield 12, 45, 9, 0, 0), none, none, some (.getfield 107, 48, 4, 3, 0), none, none],
  [some (.ireturn, 49, 0, 0, 0)]]
def T_X9_wipe : am_T := [[some (.aload_n 0, 1, 0, 0, 0), some (.getfield 12, 4, 9, 0, 0), none, none, some (.getfield 107, 7, 4, 3, 0), none, none, some (.istore_n 1, 8, 0, 0, 0), some (.aload_n 0, 9, 0, 0, 0), some (.getfield 12, 12, 9, 0, 0), none, none, some (.invokevirtual 116, 15, 29, 1, 0), none, none, some (.aload_n 0, 16, 0, 0, 0)],
  [some (.invokevirtual 113, 19, 94, 1, 0), none, none, some (.iload_n 1, 20, 0, 0, 0), some (.ireturn, 21, 0, 0, 0)]]
def T_X9_fault : am_T := [[some (.aload_n 0, 1, 0, 0, 0), some (.getfield 12, 4, 9, 0, 0), none, none, some (.getfield 119, 7, 4, 5, 0), none, none, some (.ireturn, 8, 0, 0, 0)]]
def T_X9_person : am_T := [[some (.aload_n 0, 1, 0, 0, 0), some (.iload_n 1, 2, 0, 0, 0), some (.invokevirtual 122, 5, 92, 2, 0), none, none, some (.ifCond .eq 12, 8, 17, 0, 0), none, none, some (.iload_n 2, 9, 0, 0, 0), some (.iconst 0, 10, 0, 0, 0), some (.iconst 3, 11, 0, 0, 0), some (.invokestatic 103, 14, 88, 3, 0), none, none, some (.ifCond .ne 6, 17, 20, 0, 0), none],
  [none, some (.bipush (-2), 19, 0, 0, 0), none, some (.ireturn, 20, 0, 0, 0), some (.aload_n 0, 21, 0, 0, 0), some (.iload_n 1, 22, 0, 0, 0), some (.aload_n 0, 23, 0, 0, 0), some (.getfield 30, 26, 9, 3, 0), none, none, some (.iload_n 1, 27, 0, 0, 0), some (.iaload, 28, 0, 0, 0), some (.invokevirtual 126, 31, 95, 3, 0), none, none, some (.istore_n 3, 32, 0, 0, 0)],
  [some (.iload_n 2, 33, 0, 0, 0), some (.tableswitch 49 0 2 #[27, 37, 47], 60, 0, 0, 0), none, none, none, none, none, none, none, none, none, none, none, none, none, none],
  [none, none, none, none, none, none, none, none, none, none, none, none, some (.aload_n 0, 61, 0, 0, 0), some (.getfield 12, 64, 9, 0, 0), none, none],
  [some (.getfield 130, 67, 4, 1, 0), none, none, some (.iload_n 1, 68, 0, 0, 0), some (.iaload, 69, 0, 0, 0), some (.ireturn, 70, 0, 0, 0), some (.aload_n 0, 71, 0, 0, 0), some (.getfield 12, 74, 9, 0, 0), none, none, some (.getfield 133, 77, 4, 2, 0), none, none, some (.iload_n 1, 78, 0, 0, 0), some (.iaload, 79, 0, 0, 0), some (.ireturn, 80, 0, 0, 0)],
  [some (.iload_n 3, 81, 0, 0, 0), some (.ireturn, 82, 0, 0, 0), some (.aload_n 0, 83, 0, 0, 0), some (.getfield 19, 86, 9, 1, 0), none, none, some (.aload_n 0, 87, 0, 0, 0), some (.getfield 12, 90, 9, 0, 0), none, none, some (.getfield 130, 93, 4, 1, 0), none, none, some (.iload_n 1, 94, 0, 0, 0), some (.iaload, 95, 0, 0, 0), some (.iload_n 3, 96, 0, 0, 0)],
  [some (.invokevirtual 136, 99, 35, 3, 0), none, none, some (.ireturn, 100, 0, 0, 0)]]
def T_X9_waits : am_T := [[some (.iload_n 1, 1, 0, 0, 0), some (.invokestatic 139, 4, 89, 1, 0), none, none, some (.ifCond .eq 13, 7, 17, 0, 0), none, none, some (.iload_n 2, 8, 0, 0, 0), some (.iconst 0, 9, 0, 0, 0), some (.bipush 59, 11, 0, 0, 0), none, some (.invokestatic 103, 14, 88, 3, 0), none, none, some (.ifCond .ne 6, 17, 20, 0, 0), none],
  [none, some (.bipush (-2), 19, 0, 0, 0), none, some (.ireturn, 20, 0, 0, 0), some (.aload_n 0, 21, 0, 0, 0), some (.getfield 30, 24, 9, 3, 0), none, none, some (.iload_n 1, 25, 0, 0, 0), some (.iaload, 26, 0, 0, 0), some (.istore_n 3, 27, 0, 0, 0), some (.aload_n 0, 28, 0, 0, 0), some (.getfield 30, 31, 9, 3, 0), none, none, some (.iload_n 1, 32, 0, 0, 0)],
  [some (.iload_n 2, 33, 0, 0, 0), some (.iastore, 34, 0, 0, 0), some (.aload_n 0, 35, 0, 0, 0), some (.iconst 0, 36, 0, 0, 0), some (.putfield 96, 39, 9, 15, 0), none, none, some (.iload_n 3, 40, 0, 0, 0), some (.ireturn, 41, 0, 0, 0)]]
def T_X9_rain : am_T := [[some (.iload_n 1, 1, 0, 0, 0), some (.iconst 0, 2, 0, 0, 0), some (.bipush 59, 4, 0, 0, 0), none, some (.invokestatic 103, 7, 88, 3, 0), none, none, some (.ifCond .eq 12, 10, 19, 0, 0), none, none, some (.iload_n 2, 11, 0, 0, 0), some (.iconst 0, 12, 0, 0, 0), some (.iconst 1, 13, 0, 0, 0), some (.invokestatic 103, 16, 88, 3, 0), none, none],
  [some (.ifCond .ne 6, 19, 22, 0, 0), none, none, some (.bipush (-2), 21, 0, 0, 0), none, some (.ireturn, 22, 0, 0, 0), some (.aload_n 0, 23, 0, 0, 0), some (.getfield 19, 26, 9, 1, 0), none, none, some (.iload_n 1, 27, 0, 0, 0), some (.iload_n 1, 28, 0, 0, 0), some (.iconst 1, 29, 0, 0, 0), some (.iadd, 30, 0, 0, 0), some (.invokevirtual 136, 33, 35, 3, 0), none],
  [none, some (.istore_n 3, 34, 0, 0, 0), some (.aload_n 0, 35, 0, 0, 0), some (.getfield 19, 38, 9, 1, 0), none, none, some (.iload_n 1, 39, 0, 0, 0), some (.iload_n 2, 40, 0, 0, 0), some (.invokevirtual 142, 43, 36, 3, 0), none, none, some (.aload_n 0, 44, 0, 0, 0), some (.invokevirtual 113, 47, 94, 1, 0), none, none, some (.iload_n 3, 48, 0, 0, 0)],
  [some (.ireturn, 49, 0, 0, 0)]]
def T_X9_set : am_T := [[some (.iload_n 1, 1, 0, 0, 0), some (.iconst 0, 2, 0, 0, 0), some (.iconst 5, 3, 0, 0, 0), some (.invokestatic 103, 6, 88, 3, 0), none, none, some (.ifCond .eq 20, 9, 26, 0, 0), none, none, some (.iload_n 2, 10, 0, 0, 0), some (.getstatic 146, 13, 0, 0, 0), none, none, some (.iload_n 1, 14, 0, 0, 0), some (.iaload, 15, 0, 0, 0), some (.getstatic 149, 18, 1, 0, 0)],
  [none, none, some (.iload_n 1, 19, 0, 0, 0), some (.iaload, 20, 0, 0, 0), some (.invokestatic 103, 23, 88, 3, 0), none, none, some (.ifCond .ne 6, 26, 29, 0, 0), none, none, some (.bipush (-2), 28, 0, 0, 0), none, some (.ireturn, 29, 0, 0, 0), some (.aload_n 0, 30, 0, 0, 0), some (.getfield 26, 33, 9, 2, 0), none],
  [none, some (.getfield 152, 36, 6, 0, 0), none, none, some (.iload_n 1, 37, 0, 0, 0), some (.iaload, 38, 0, 0, 0), some (.istore_n 3, 39, 0, 0, 0), some (.aload_n 0, 40, 0, 0, 0), some (.getfield 26, 43, 9, 2, 0), none, none, some (.getfield 152, 46, 6, 0, 0), none, none, some (.iload_n 1, 47, 0, 0, 0), some (.iload_n 2, 48, 0, 0, 0)],
  [some (.iastore, 49, 0, 0, 0), some (.aload_n 0, 50, 0, 0, 0), some (.invokevirtual 113, 53, 94, 1, 0), none, none, some (.iload_n 3, 54, 0, 0, 0), some (.ireturn, 55, 0, 0, 0)]]
def T_X9_love : am_T := [[some (.iload_n 1, 1, 0, 0, 0), some (.invokestatic 139, 4, 89, 1, 0), none, none, some (.ifCond .eq 25, 7, 29, 0, 0), none, none, some (.iload_n 2, 8, 0, 0, 0), some (.invokestatic 139, 11, 89, 1, 0), none, none, some (.ifCond .eq 18, 14, 29, 0, 0), none, none, some (.iload_n 1, 15, 0, 0, 0), some (.iload_n 2, 16, 0, 0, 0)],
  [some (.if_icmp .eq 13, 19, 29, 0, 0), none, none, some (.iload_n 3, 20, 0, 0, 0), some (.iconst 0, 21, 0, 0, 0), some (.bipush 20, 23, 0, 0, 0), none, some (.invokestatic 103, 26, 88, 3, 0), none, none, some (.ifCond .ne 6, 29, 32, 0, 0), none, none, some (.bipush (-2), 31, 0, 0, 0), none, some (.ireturn, 32, 0, 0, 0)],
  [some (.aload_n 0, 33, 0, 0, 0), some (.getfield 26, 36, 9, 2, 0), none, none, some (.getfield 155, 39, 6, 1, 0), none, none, some (.iload_n 1, 40, 0, 0, 0), some (.aaload, 41, 1, 0, 0), some (.iload_n 2, 42, 0, 0, 0), some (.iaload, 43, 0, 0, 0), some (.istore 4, 45, 0, 0, 0), none, some (.aload_n 0, 46, 0, 0, 0), some (.getfield 26, 49, 9, 2, 0), none],
  [none, some (.getfield 155, 52, 6, 1, 0), none, none, some (.iload_n 1, 53, 0, 0, 0), some (.aaload, 54, 1, 0, 0), some (.iload_n 2, 55, 0, 0, 0), some (.iload_n 3, 56, 0, 0, 0), some (.iastore, 57, 0, 0, 0), some (.aload_n 0, 58, 0, 0, 0), some (.getfield 26, 61, 9, 2, 0), none, none, some (.getfield 155, 64, 6, 1, 0), none, none],
  [some (.iload_n 2, 65, 0, 0, 0), some (.aaload, 66, 1, 0, 0), some (.iload_n 1, 67, 0, 0, 0), some (.iload_n 3, 68, 0, 0, 0), some (.iastore, 69, 0, 0, 0), some (.aload_n 0, 70, 0, 0, 0), some (.invokevirtual 113, 73, 94, 1, 0), none, none, some (.iload 4, 75, 0, 0, 0), none, some (.ireturn, 76, 0, 0, 0)]]
def T_X9_read : am_T := [[some (.iload_n 1, 1, 0, 0, 0), some (.invokestatic 159, 4, 90, 1, 0), none, none, some (.ifCond .ne 6, 7, 10, 0, 0), none, none, some (.bipush (-2), 9, 0, 0, 0), none, some (.ireturn, 10, 0, 0, 0), some (.aload_n 0, 11, 0, 0, 0), some (.getfield 84, 14, 9, 12, 0), none, none, some (.iload_n 1, 15, 0, 0, 0), some (.aaload, 16, 0, 0, 0)],
  [some (.astore_n 2, 17, 0, 0, 0), some (.aload_n 2, 18, 0, 0, 0), some (.invokevirtual 162, 21, 42, 1, 0), none, none, some (.ifCond .eq 9, 24, 30, 0, 0), none, none, some (.aload_n 0, 25, 0, 0, 0), some (.iconst 1, 26, 0, 0, 0), some (.invokevirtual 166, 29, 93, 2, 0), none, none, some (.ireturn, 30, 0, 0, 0), some (.aload_n 2, 31, 0, 0, 0), some (.getfield 170, 34, 7, 2, 0)],
  [none, none, some (.bipush 7, 36, 0, 0, 0), none, some (.invokestatic 173, 39, 1003, 4, 0), none, none, some (.istore_n 3, 40, 0, 0, 0), some (.iconst 0, 41, 0, 0, 0), some (.istore 4, 43, 0, 0, 0), none, some (.iload 4, 45, 0, 0, 0), none, some (.iload_n 3, 46, 0, 0, 0), some (.if_icmp .ge 39, 49, 85, 0, 0), none],
  [none, some (.aload_n 2, 50, 0, 0, 0), some (.getfield 178, 53, 7, 0, 0), none, none, some (.iload 4, 55, 0, 0, 0), none, some (.iaload, 56, 0, 0, 0), some (.iconst 0, 57, 0, 0, 0), some (.bipush 59, 59, 0, 0, 0), none, some (.invokestatic 103, 62, 88, 3, 0), none, none, some (.ifCond .eq 23, 65, 85, 0, 0), none],
  [none, some (.aload_n 0, 66, 0, 0, 0), some (.getfield 30, 69, 9, 3, 0), none, none, some (.iload 4, 71, 0, 0, 0), none, some (.aload_n 2, 72, 0, 0, 0), some (.getfield 178, 75, 7, 0, 0), none, none, some (.iload 4, 77, 0, 0, 0), none, some (.iaload, 78, 0, 0, 0), some (.iastore, 79, 0, 0, 0), some (.iinc 4 1, 82, 0, 0, 0)],
  [none, none, some (.goto (-39), 85, 43, 0, 0), none, none, some (.aload_n 0, 86, 0, 0, 0), some (.iconst 0, 87, 0, 0, 0), some (.putfield 96, 90, 9, 15, 0), none, none, some (.iload 4, 92, 0, 0, 0), none, some (.ireturn, 93, 0, 0, 0)]]
def T_X9_seat : am_T := [[some (.aload_n 0, 1, 0, 0, 0), some (.iload_n 1, 2, 0, 0, 0), some (.invokevirtual 122, 5, 92, 2, 0), none, none, some (.ifCond .ne 6, 8, 11, 0, 0), none, none, some (.bipush (-2), 10, 0, 0, 0), none, some (.ireturn, 11, 0, 0, 0), some (.aload_n 0, 12, 0, 0, 0), some (.invokevirtual 181, 15, 97, 1, 0), none, none, some (.aload_n 0, 16, 0, 0, 0)],
  [some (.getfield 42, 19, 9, 5, 0), none, none, some (.getfield 184, 22, 0, 3, 0), none, none, some (.iload_n 1, 23, 0, 0, 0), some (.iaload, 24, 0, 0, 0), some (.ireturn, 25, 0, 0, 0)]]
def T_X9_who : am_T := [[some (.iload_n 1, 1, 0, 0, 0), some (.iconst 0, 2, 0, 0, 0), some (.bipush 6, 4, 0, 0, 0), none, some (.invokestatic 103, 7, 88, 3, 0), none, none, some (.ifCond .ne 6, 10, 13, 0, 0), none, none, some (.bipush (-2), 12, 0, 0, 0), none, some (.ireturn, 13, 0, 0, 0), some (.aload_n 0, 14, 0, 0, 0), some (.invokevirtual 181, 17, 97, 1, 0), none],
  [none, some (.iload_n 1, 18, 0, 0, 0), some (.aload_n 0, 19, 0, 0, 0), some (.getfield 42, 22, 9, 5, 0), none, none, some (.getfield 187, 25, 0, 5, 0), none, none, some (.if_icmp .ge 15, 28, 40, 0, 0), none, none, some (.aload_n 0, 29, 0, 0, 0), some (.getfield 42, 32, 9, 5, 0), none, none],
  [some (.getfield 190, 35, 0, 4, 0), none, none, some (.iload_n 1, 36, 0, 0, 0), some (.iaload, 37, 0, 0, 0), some (.goto 4, 40, 41, 0, 0), none, none, some (.iconst (-1), 41, 0, 0, 0), some (.ireturn, 42, 0, 0, 0)]]
def T_X9_has : am_T := [[some (.aload_n 0, 1, 0, 0, 0), some (.iload_n 1, 2, 0, 0, 0), some (.invokevirtual 122, 5, 92, 2, 0), none, none, some (.ifCond .ne 7, 8, 12, 0, 0), none, none, some (.sipush (-10002), 11, 0, 0, 0), none, none, some (.ireturn, 12, 0, 0, 0), some (.aload_n 0, 13, 0, 0, 0), some (.invokevirtual 181, 16, 97, 1, 0), none, none],
  [some (.aload_n 0, 17, 0, 0, 0), some (.getfield 42, 20, 9, 5, 0), none, none, some (.iload_n 1, 21, 0, 0, 0), some (.aload_n 0, 22, 0, 0, 0), some (.getfield 34, 25, 9, 4, 0), none, none, some (.iload_n 1, 26, 0, 0, 0), some (.iaload, 27, 0, 0, 0), some (.invokevirtual 193, 30, 4, 3, 0), none, none, some (.ireturn, 31, 0, 0, 0)]]
def T_X9_best : am_T := [[some (.aload_n 0, 1, 0, 0, 0), some (.iload_n 1, 2, 0, 0, 0), some (.invokevirtual 122, 5, 92, 2, 0), none, none, some (.ifCond .eq 12, 8, 17, 0, 0), none, none, some (.iload_n 2, 9, 0, 0, 0), some (.iconst 0, 10, 0, 0, 0), some (.iconst 1, 11, 0, 0, 0), some (.invokestatic 103, 14, 88, 3, 0), none, none, some (.ifCond .ne 7, 17, 21, 0, 0), none],
  [none, some (.sipush (-10002), 20, 0, 0, 0), none, none, some (.ireturn, 21, 0, 0, 0), some (.aload_n 0, 22, 0, 0, 0), some (.invokevirtual 196, 25, 96, 1, 0), none, none, some (.iconst 0, 26, 0, 0, 0), some (.istore_n 3, 27, 0, 0, 0), some (.iconst 0, 28, 0, 0, 0), some (.istore 4, 30, 0, 0, 0), none, some (.iconst 0, 31, 0, 0, 0), some (.istore 5, 33, 0, 0, 0)],
  [none, some (.iload 5, 35, 0, 0, 0), none, some (.bipush 59, 37, 0, 0, 0), none, some (.aload_n 0, 38, 0, 0, 0), some (.getfield 12, 41, 9, 0, 0), none, none, some (.getfield 130, 44, 4, 1, 0), none, none, some (.iload_n 1, 45, 0, 0, 0), some (.iaload, 46, 0, 0, 0), some (.isub, 47, 0, 0, 0), some (.if_icmp .gt 86, 50, 133, 0, 0)],
  [none, none, some (.aload_n 0, 51, 0, 0, 0), some (.getfield 34, 54, 9, 4, 0), none, none, some (.iload_n 1, 55, 0, 0, 0), some (.aload_n 0, 56, 0, 0, 0), some (.getfield 12, 59, 9, 0, 0), none, none, some (.getfield 130, 62, 4, 1, 0), none, none, some (.iload_n 1, 63, 0, 0, 0), some (.iaload, 64, 0, 0, 0)],
  [some (.iload 5, 66, 0, 0, 0), none, some (.iadd, 67, 0, 0, 0), some (.iastore, 68, 0, 0, 0), some (.aload_n 0, 69, 0, 0, 0), some (.getfield 42, 72, 9, 5, 0), none, none, some (.aload_n 0, 73, 0, 0, 0), some (.getfield 34, 76, 9, 4, 0), none, none, some (.aload_n 0, 77, 0, 0, 0), some (.invokevirtual 199, 80, 98, 1, 0), none, none],
  [some (.aload_n 0, 81, 0, 0, 0), some (.getfield 26, 84, 9, 2, 0), none, none, some (.getfield 152, 87, 6, 0, 0), none, none, some (.iconst 1, 88, 0, 0, 0), some (.iaload, 89, 0, 0, 0), some (.invokevirtual 203, 92, 1, 4, 0), none, none, some (.aload_n 0, 93, 0, 0, 0), some (.getfield 42, 96, 9, 5, 0), none, none],
  [some (.iload_n 1, 97, 0, 0, 0), some (.aload_n 0, 98, 0, 0, 0), some (.getfield 34, 101, 9, 4, 0), none, none, some (.iload_n 1, 102, 0, 0, 0), some (.iaload, 103, 0, 0, 0), some (.invokevirtual 193, 106, 4, 3, 0), none, none, some (.istore 6, 108, 0, 0, 0), none, some (.iload 5, 110, 0, 0, 0), none, some (.ifCond .eq 10, 113, 120, 0, 0), none],
  [none, some (.iload 6, 115, 0, 0, 0), none, some (.iload 4, 117, 0, 0, 0), none, some (.if_icmp .le 10, 120, 127, 0, 0), none, none, some (.iload 5, 122, 0, 0, 0), none, some (.istore_n 3, 123, 0, 0, 0), some (.iload 6, 125, 0, 0, 0), none, some (.istore 4, 127, 0, 0, 0), none, some (.iinc 5 1, 130, 0, 0, 0)],
  [none, none, some (.goto (-97), 133, 33, 0, 0), none, none, some (.iload_n 2, 134, 0, 0, 0), some (.ifCond .ne 7, 137, 141, 0, 0), none, none, some (.iload_n 3, 138, 0, 0, 0), some (.goto 5, 141, 143, 0, 0), none, none, some (.iload 4, 143, 0, 0, 0), none, some (.ireturn, 144, 0, 0, 0)]]
def T_X9_rest : am_T := [[some (.iload_n 1, 1, 0, 0, 0), some (.iconst (-1), 2, 0, 0, 0), some (.if_icmp .eq 14, 5, 16, 0, 0), none, none, some (.aload_n 0, 6, 0, 0, 0), some (.iload_n 1, 7, 0, 0, 0), some (.invokevirtual 122, 10, 92, 2, 0), none, none, some (.ifCond .ne 6, 13, 16, 0, 0), none, none, some (.bipush (-2), 15, 0, 0, 0), none, some (.ireturn, 16, 0, 0, 0)],
  [some (.aload_n 0, 17, 0, 0, 0), some (.getfield 12, 20, 9, 0, 0), none, none, some (.getfield 207, 23, 4, 4, 0), none, none, some (.bipush 6, 25, 0, 0, 0), none, some (.if_icmp .le 6, 28, 31, 0, 0), none, none, some (.bipush (-4), 30, 0, 0, 0), none, some (.ireturn, 31, 0, 0, 0), some (.aload_n 0, 32, 0, 0, 0)],
  [some (.invokevirtual 210, 35, 100, 1, 1), none, none, some (.iload_n 1, 36, 0, 0, 0), some (.iconst (-1), 37, 0, 0, 0), some (.if_icmp .ne 11, 40, 48, 0, 0), none, none, some (.aload_n 0, 41, 0, 0, 0), some (.getfield 54, 44, 9, 7, 0), none, none, some (.getfield 213, 47, 2, 6, 0), none, none, some (.ireturn, 48, 0, 0, 0)],
  [some (.aload_n 0, 49, 0, 0, 0), some (.getfield 54, 52, 9, 7, 0), none, none, some (.getfield 216, 55, 2, 7, 0), none, none, some (.iconst (-1), 56, 0, 0, 0), some (.if_icmp .ne 7, 59, 63, 0, 0), none, none, some (.iconst (-1), 60, 0, 0, 0), some (.goto 18, 63, 78, 0, 0), none, none, some (.aload_n 0, 64, 0, 0, 0)],
  [some (.getfield 54, 67, 9, 7, 0), none, none, some (.aload_n 0, 68, 0, 0, 0), some (.getfield 54, 71, 9, 7, 0), none, none, some (.getfield 216, 74, 2, 7, 0), none, none, some (.iload_n 1, 75, 0, 0, 0), some (.invokevirtual 219, 78, 12, 3, 0), none, none, some (.ireturn, 79, 0, 0, 0)]]
def T_X9_change : am_T := [[some (.aload_n 0, 1, 0, 0, 0), some (.iload_n 1, 2, 0, 0, 0), some (.invokevirtual 122, 5, 92, 2, 0), none, none, some (.ifCond .eq 16, 8, 21, 0, 0), none, none, some (.aload_n 0, 9, 0, 0, 0), some (.iload_n 2, 10, 0, 0, 0), some (.invokevirtual 122, 13, 92, 2, 0), none, none, some (.ifCond .eq 8, 16, 21, 0, 0), none, none],
  [some (.iload_n 1, 17, 0, 0, 0), some (.iload_n 2, 18, 0, 0, 0), some (.if_icmp .ne 6, 21, 24, 0, 0), none, none, some (.bipush (-2), 23, 0, 0, 0), none, some (.ireturn, 24, 0, 0, 0), some (.aload_n 0, 25, 0, 0, 0), some (.invokevirtual 181, 28, 97, 1, 0), none, none, some (.aload_n 0, 29, 0, 0, 0), some (.getfield 42, 32, 9, 5, 0), none, none],
  [some (.getfield 184, 35, 0, 3, 0), none, none, some (.iload_n 1, 36, 0, 0, 0), some (.iaload, 37, 0, 0, 0), some (.iconst (-1), 38, 0, 0, 0), some (.if_icmp .eq 16, 41, 54, 0, 0), none, none, some (.aload_n 0, 42, 0, 0, 0), some (.getfield 42, 45, 9, 5, 0), none, none, some (.getfield 184, 48, 0, 3, 0), none, none],
  [some (.iload_n 2, 49, 0, 0, 0), some (.iaload, 50, 0, 0, 0), some (.iconst (-1), 51, 0, 0, 0), some (.if_icmp .ne 6, 54, 57, 0, 0), none, none, some (.bipush (-3), 56, 0, 0, 0), none, some (.ireturn, 57, 0, 0, 0), some (.aload_n 0, 58, 0, 0, 0), some (.iload_n 1, 59, 0, 0, 0), some (.iload_n 2, 60, 0, 0, 0), some (.invokevirtual 222, 63, 99, 3, 0), none, none, some (.ifCond .eq 7, 66, 70, 0, 0)],
  [none, none, some (.iconst 1, 67, 0, 0, 0), some (.goto 4, 70, 71, 0, 0), none, none, some (.iconst 0, 71, 0, 0, 0), some (.ireturn, 72, 0, 0, 0)]]
def T_X9_changes : am_T := [[some (.aload_n 0, 1, 0, 0, 0), some (.invokevirtual 181, 4, 97, 1, 0), none, none, some (.iconst 0, 5, 0, 0, 0), some (.istore_n 1, 6, 0, 0, 0), some (.iconst 0, 7, 0, 0, 0), some (.istore_n 2, 8, 0, 0, 0), some (.iload_n 2, 9, 0, 0, 0), some (.aload_n 0, 10, 0, 0, 0), some (.getfield 12, 13, 9, 0, 0), none, none, some (.getfield 207, 16, 4, 4, 0), none, none],
  [some (.if_icmp .ge 68, 19, 84, 0, 0), none, none, some (.iload_n 2, 20, 0, 0, 0), some (.iconst 1, 21, 0, 0, 0), some (.iadd, 22, 0, 0, 0), some (.istore_n 3, 23, 0, 0, 0), some (.iload_n 3, 24, 0, 0, 0), some (.aload_n 0, 25, 0, 0, 0), some (.getfield 12, 28, 9, 0, 0), none, none, some (.getfield 207, 31, 4, 4, 0), none, none, some (.if_icmp .ge 47, 34, 78, 0, 0)],
  [none, none, some (.aload_n 0, 35, 0, 0, 0), some (.getfield 42, 38, 9, 5, 0), none, none, some (.getfield 184, 41, 0, 3, 0), none, none, some (.iload_n 2, 42, 0, 0, 0), some (.iaload, 43, 0, 0, 0), some (.iconst (-1), 44, 0, 0, 0), some (.if_icmp .eq 28, 47, 72, 0, 0), none, none, some (.aload_n 0, 48, 0, 0, 0)],
  [some (.getfield 42, 51, 9, 5, 0), none, none, some (.getfield 184, 54, 0, 3, 0), none, none, some (.iload_n 3, 55, 0, 0, 0), some (.iaload, 56, 0, 0, 0), some (.iconst (-1), 57, 0, 0, 0), some (.if_icmp .eq 15, 60, 72, 0, 0), none, none, some (.aload_n 0, 61, 0, 0, 0), some (.iload_n 2, 62, 0, 0, 0), some (.iload_n 3, 63, 0, 0, 0), some (.invokevirtual 222, 66, 99, 3, 0)],
  [none, none, some (.ifCond .eq 6, 69, 72, 0, 0), none, none, some (.iinc 1 1, 72, 0, 0, 0), none, none, some (.iinc 3 1, 75, 0, 0, 0), none, none, some (.goto (-52), 78, 23, 0, 0), none, none, some (.iinc 2 1, 81, 0, 0, 0), none],
  [none, some (.goto (-73), 84, 8, 0, 0), none, none, some (.iload_n 1, 85, 0, 0, 0), some (.ireturn, 86, 0, 0, 0)]]
def T_X9_churches : am_T := [[some (.iload_n 1, 1, 0, 0, 0), some (.iconst 0, 2, 0, 0, 0), some (.iconst 1, 3, 0, 0, 0), some (.invokestatic 103, 6, 88, 3, 0), none, none, some (.ifCond .ne 6, 9, 12, 0, 0), none, none, some (.bipush (-2), 11, 0, 0, 0), none, some (.ireturn, 12, 0, 0, 0), some (.aload_n 0, 13, 0, 0, 0), some (.invokevirtual 226, 16, 102, 1, 1), none, none],
  [some (.iload_n 1, 17, 0, 0, 0), some (.ifCond .ne 13, 20, 30, 0, 0), none, none, some (.aload_n 0, 21, 0, 0, 0), some (.getfield 58, 24, 9, 8, 0), none, none, some (.getfield 213, 27, 2, 6, 0), none, none, some (.goto 10, 30, 37, 0, 0), none, none, some (.aload_n 0, 31, 0, 0, 0), some (.getfield 58, 34, 9, 8, 0)],
  [none, none, some (.getfield 216, 37, 2, 7, 0), none, none, some (.ireturn, 38, 0, 0, 0)]]
def T_X9_sat : am_T := [[some (.iload_n 1, 1, 0, 0, 0), some (.invokestatic 139, 4, 89, 1, 0), none, none, some (.ifCond .eq 13, 7, 17, 0, 0), none, none, some (.iload_n 2, 8, 0, 0, 0), some (.iconst 0, 9, 0, 0, 0), some (.bipush 6, 11, 0, 0, 0), none, some (.invokestatic 103, 14, 88, 3, 0), none, none, some (.ifCond .ne 6, 17, 20, 0, 0), none],
  [none, some (.bipush (-2), 19, 0, 0, 0), none, some (.ireturn, 20, 0, 0, 0), some (.aload_n 0, 21, 0, 0, 0), some (.iconst 0, 22, 0, 0, 0), some (.iload_n 1, 23, 0, 0, 0), some (.iload_n 2, 24, 0, 0, 0), some (.invokevirtual 229, 27, 103, 4, 0), none, none, some (.ireturn, 28, 0, 0, 0)]]
def T_X9_front : am_T := [[some (.iload_n 1, 1, 0, 0, 0), some (.invokestatic 139, 4, 89, 1, 0), none, none, some (.ifCond .eq 15, 7, 19, 0, 0), none, none, some (.iload_n 2, 8, 0, 0, 0), some (.invokestatic 139, 11, 89, 1, 0), none, none, some (.ifCond .eq 8, 14, 19, 0, 0), none, none, some (.iload_n 1, 15, 0, 0, 0), some (.iload_n 2, 16, 0, 0, 0)],
  [some (.if_icmp .ne 6, 19, 22, 0, 0), none, none, some (.bipush (-2), 21, 0, 0, 0), none, some (.ireturn, 22, 0, 0, 0), some (.aload_n 0, 23, 0, 0, 0), some (.iconst 1, 24, 0, 0, 0), some (.iload_n 1, 25, 0, 0, 0), some (.iload_n 2, 26, 0, 0, 0), some (.invokevirtual 229, 29, 103, 4, 0), none, none, some (.ireturn, 30, 0, 0, 0)]]
def T_X9_forget : am_T := [[some (.aload_n 0, 1, 0, 0, 0), some (.getfield 64, 4, 9, 9, 0), none, none, some (.getfield 233, 7, 1, 3, 0), none, none, some (.istore_n 1, 8, 0, 0, 0), some (.aload_n 0, 9, 0, 0, 0), some (.getfield 64, 12, 9, 9, 0), none, none, some (.iconst 0, 13, 0, 0, 0), some (.putfield 233, 16, 1, 3, 0), none, none],
  [some (.aload_n 0, 17, 0, 0, 0), some (.iconst 0, 18, 0, 0, 0), some (.putfield 99, 21, 9, 16, 0), none, none, some (.iload_n 1, 22, 0, 0, 0), some (.ireturn, 23, 0, 0, 0)]]
def T_X9_came : am_T := [[some (.iload_n 1, 1, 0, 0, 0), some (.iconst (-1), 2, 0, 0, 0), some (.if_icmp .eq 14, 5, 16, 0, 0), none, none, some (.aload_n 0, 6, 0, 0, 0), some (.iload_n 1, 7, 0, 0, 0), some (.invokevirtual 122, 10, 92, 2, 0), none, none, some (.ifCond .ne 6, 13, 16, 0, 0), none, none, some (.bipush (-2), 15, 0, 0, 0), none, some (.ireturn, 16, 0, 0, 0)],
  [some (.aload_n 0, 17, 0, 0, 0), some (.invokevirtual 234, 20, 104, 1, 0), none, none, some (.iload_n 1, 21, 0, 0, 0), some (.iconst (-1), 22, 0, 0, 0), some (.if_icmp .ne 13, 25, 35, 0, 0), none, none, some (.aload_n 0, 26, 0, 0, 0), some (.getfield 71, 29, 9, 10, 0), none, none, some (.invokevirtual 237, 32, 23, 1, 0), none, none],
  [some (.goto 11, 35, 43, 0, 0), none, none, some (.aload_n 0, 36, 0, 0, 0), some (.getfield 71, 39, 9, 10, 0), none, none, some (.iload_n 1, 40, 0, 0, 0), some (.invokevirtual 240, 43, 24, 2, 0), none, none, some (.ireturn, 44, 0, 0, 0)]]
def T_X9_sure : am_T := [[some (.aload_n 0, 1, 0, 0, 0), some (.invokevirtual 234, 4, 104, 1, 0), none, none, some (.aload_n 0, 5, 0, 0, 0), some (.getfield 71, 8, 9, 10, 0), none, none, some (.invokevirtual 243, 11, 25, 1, 0), none, none, some (.ireturn, 12, 0, 0, 0)]]
def T_X9_fair : am_T := [[some (.aload_n 0, 1, 0, 0, 0), some (.iload_n 1, 2, 0, 0, 0), some (.invokevirtual 122, 5, 92, 2, 0), none, none, some (.ifCond .eq 12, 8, 17, 0, 0), none, none, some (.iload_n 2, 9, 0, 0, 0), some (.iconst 0, 10, 0, 0, 0), some (.iconst 1, 11, 0, 0, 0), some (.invokestatic 103, 14, 88, 3, 0), none, none, some (.ifCond .ne 7, 17, 21, 0, 0), none],
  [none, some (.ldc2_w 246, 20, 0, 0, (-9223372036854775806)), none, none, some (.lreturn, 21, 0, 0, 0), some (.aload_n 0, 22, 0, 0, 0), some (.getfield 12, 25, 9, 0, 0), none, none, some (.getfield 207, 28, 4, 4, 0), none, none, some (.istore_n 3, 29, 0, 0, 0), some (.iconst 1, 30, 0, 0, 0), some (.iload_n 3, 31, 0, 0, 0), some (.iconst 1, 32, 0, 0, 0)],
  [some (.isub, 33, 0, 0, 0), some (.invokestatic 248, 36, 1003, 2, 0), none, none, some (.istore 4, 38, 0, 0, 0), none, some (.iconst 0, 39, 0, 0, 0), some (.istore 5, 41, 0, 0, 0), none, some (.iconst 0, 42, 0, 0, 0), some (.istore 6, 44, 0, 0, 0), none, some (.iconst 0, 45, 0, 0, 0), some (.istore 7, 47, 0, 0, 0), none, some (.iload 7, 49, 0, 0, 0)],
  [none, some (.iload_n 3, 50, 0, 0, 0), some (.if_icmp .ge 47, 53, 97, 0, 0), none, none, some (.iload 5, 55, 0, 0, 0), none, some (.aload_n 0, 56, 0, 0, 0), some (.getfield 26, 59, 9, 2, 0), none, none, some (.iload 7, 61, 0, 0, 0), none, some (.aload_n 0, 62, 0, 0, 0), some (.getfield 12, 65, 9, 0, 0), none],
  [none, some (.getfield 133, 68, 4, 2, 0), none, none, some (.iload_n 1, 69, 0, 0, 0), some (.iaload, 70, 0, 0, 0), some (.invokevirtual 251, 73, 38, 3, 0), none, none, some (.iadd, 74, 0, 0, 0), some (.istore 5, 76, 0, 0, 0), none, some (.iload 6, 78, 0, 0, 0), none, some (.aload_n 0, 79, 0, 0, 0), some (.getfield 26, 82, 9, 2, 0)],
  [none, none, some (.iload 7, 84, 0, 0, 0), none, some (.iload_n 3, 85, 0, 0, 0), some (.invokevirtual 254, 88, 40, 3, 0), none, none, some (.iadd, 89, 0, 0, 0), some (.istore 6, 91, 0, 0, 0), none, some (.iinc 7 1, 94, 0, 0, 0), none, none, some (.goto (-47), 97, 47, 0, 0), none],
  [none, some (.iconst 0, 98, 0, 0, 0), some (.istore 7, 100, 0, 0, 0), none, some (.iconst 0, 101, 0, 0, 0), some (.istore 8, 103, 0, 0, 0), none, some (.iload 8, 105, 0, 0, 0), none, some (.iload_n 3, 106, 0, 0, 0), some (.if_icmp .ge 26, 109, 132, 0, 0), none, none, some (.iload 7, 111, 0, 0, 0), none, some (.aload_n 0, 112, 0, 0, 0)],
  [some (.getfield 26, 115, 9, 2, 0), none, none, some (.getfield 155, 118, 6, 1, 0), none, none, some (.iload_n 1, 119, 0, 0, 0), some (.aaload, 120, 1, 0, 0), some (.iload 8, 122, 0, 0, 0), none, some (.iaload, 123, 0, 0, 0), some (.iadd, 124, 0, 0, 0), some (.istore 7, 126, 0, 0, 0), none, some (.iinc 8 1, 129, 0, 0, 0), none],
  [none, some (.goto (-26), 132, 103, 0, 0), none, none, some (.iload 4, 134, 0, 0, 0), none, some (.iload 5, 136, 0, 0, 0), none, some (.imul, 137, 0, 0, 0), some (.iload 6, 139, 0, 0, 0), none, some (.iload 7, 141, 0, 0, 0), none, some (.imul, 142, 0, 0, 0), some (.iadd, 143, 0, 0, 0), some (.i2l, 144, 0, 0, 0)],
  [some (.iload_n 3, 145, 0, 0, 0), some (.iload 4, 147, 0, 0, 0), none, some (.imul, 148, 0, 0, 0), some (.i2l, 149, 0, 0, 0), some (.iload_n 2, 150, 0, 0, 0), some (.invokestatic 257, 153, 106, 3, 0), none, none, some (.lreturn, 154, 0, 0, 0)]]
def T_X9_lot : am_T := [[some (.aload_n 0, 1, 0, 0, 0), some (.iload_n 2, 2, 0, 0, 0), some (.invokevirtual 122, 5, 92, 2, 0), none, none, some (.ifCond .ne 6, 8, 11, 0, 0), none, none, some (.bipush (-2), 10, 0, 0, 0), none, some (.ireturn, 11, 0, 0, 0), some (.iload_n 1, 12, 0, 0, 0), some (.istore_n 3, 13, 0, 0, 0), some (.iconst 0, 14, 0, 0, 0), some (.istore 4, 16, 0, 0, 0), none],
  [some (.iconst (-1), 17, 0, 0, 0), some (.istore 5, 19, 0, 0, 0), none, some (.iconst 0, 20, 0, 0, 0), some (.istore 6, 22, 0, 0, 0), none, some (.iload 6, 24, 0, 0, 0), none, some (.iload_n 2, 25, 0, 0, 0), some (.if_icmp .gt 54, 28, 79, 0, 0), none, none, some (.ldc_w 261, 31, 0, 0, 1103515245), none, none, some (.iload_n 3, 32, 0, 0, 0)],
  [some (.imul, 33, 0, 0, 0), some (.sipush 12345, 36, 0, 0, 0), none, none, some (.iadd, 37, 0, 0, 0), some (.istore_n 3, 38, 0, 0, 0), some (.iload 4, 40, 0, 0, 0), none, some (.iload_n 3, 41, 0, 0, 0), some (.bipush 16, 43, 0, 0, 0), none, some (.iushr, 44, 0, 0, 0), some (.iconst 1, 45, 0, 0, 0), some (.aload_n 0, 46, 0, 0, 0), some (.getfield 12, 49, 9, 0, 0), none],
  [none, some (.getfield 207, 52, 4, 4, 0), none, none, some (.iload 6, 54, 0, 0, 0), none, some (.isub, 55, 0, 0, 0), some (.invokestatic 248, 58, 1003, 2, 0), none, none, some (.irem, 59, 0, 0, 0), some (.invokestatic 262, 62, 105, 2, 0), none, none, some (.istore 5, 64, 0, 0, 0), none],
  [some (.iload 4, 66, 0, 0, 0), none, some (.iconst 1, 67, 0, 0, 0), some (.iload 5, 69, 0, 0, 0), none, some (.ishl, 70, 0, 0, 0), some (.ior, 71, 0, 0, 0), some (.istore 4, 73, 0, 0, 0), none, some (.iinc 6 1, 76, 0, 0, 0), none, none, some (.goto (-54), 79, 22, 0, 0), none, none, some (.iload 5, 81, 0, 0, 0)],
  [none, some (.ireturn, 82, 0, 0, 0)]]
def T_X9_sunday : am_T := [[some (.iload_n 1, 1, 0, 0, 0), some (.invokestatic 139, 4, 89, 1, 0), none, none, some (.ifCond .eq 12, 7, 16, 0, 0), none, none, some (.iload_n 2, 8, 0, 0, 0), some (.iconst 0, 9, 0, 0, 0), some (.iconst 1, 10, 0, 0, 0), some (.invokestatic 103, 13, 88, 3, 0), none, none, some (.ifCond .ne 6, 16, 19, 0, 0), none, none],
  [some (.bipush (-2), 18, 0, 0, 0), none, some (.ireturn, 19, 0, 0, 0), some (.aload_n 0, 20, 0, 0, 0), some (.getfield 78, 23, 9, 11, 0), none, none, some (.getfield 265, 26, 8, 2, 0), none, none, some (.bipush 60, 28, 0, 0, 0), none, some (.if_icmp .lt 6, 31, 34, 0, 0), none, none, some (.bipush (-4), 33, 0, 0, 0)],
  [none, some (.ireturn, 34, 0, 0, 0), some (.aload_n 0, 35, 0, 0, 0), some (.getfield 78, 38, 9, 11, 0), none, none, some (.iload_n 1, 39, 0, 0, 0), some (.iload_n 2, 40, 0, 0, 0), some (.invokevirtual 268, 43, 48, 3, 0), none, none, some (.aload_n 0, 44, 0, 0, 0), some (.getfield 78, 47, 9, 11, 0), none, none, some (.getfield 271, 50, 8, 0, 0)],
  [none, none, some (.iload_n 1, 51, 0, 0, 0), some (.iaload, 52, 0, 0, 0), some (.ireturn, 53, 0, 0, 0)]]
def T_X9_late : am_T := [[some (.iload_n 1, 1, 0, 0, 0), some (.invokestatic 139, 4, 89, 1, 0), none, none, some (.ifCond .eq 12, 7, 16, 0, 0), none, none, some (.iload_n 2, 8, 0, 0, 0), some (.iconst 0, 9, 0, 0, 0), some (.iconst 1, 10, 0, 0, 0), some (.invokestatic 103, 13, 88, 3, 0), none, none, some (.ifCond .ne 7, 16, 20, 0, 0), none, none],
  [some (.ldc2_w 246, 19, 0, 0, (-9223372036854775806)), none, none, some (.lreturn, 20, 0, 0, 0), some (.aload_n 0, 21, 0, 0, 0), some (.getfield 78, 24, 9, 11, 0), none, none, some (.iload_n 1, 25, 0, 0, 0), some (.invokevirtual 274, 28, 49, 2, 0), none, none, some (.i2l, 29, 0, 0, 0), some (.aload_n 0, 30, 0, 0, 0), some (.getfield 78, 33, 9, 11, 0), none],
  [none, some (.iload_n 1, 34, 0, 0, 0), some (.invokevirtual 277, 37, 50, 2, 0), none, none, some (.i2l, 38, 0, 0, 0), some (.iload_n 2, 39, 0, 0, 0), some (.invokestatic 257, 42, 106, 3, 0), none, none, some (.lreturn, 43, 0, 0, 0)]]
def T_X9_allLate : am_T := [[some (.iload_n 1, 1, 0, 0, 0), some (.iconst 0, 2, 0, 0, 0), some (.iconst 1, 3, 0, 0, 0), some (.invokestatic 103, 6, 88, 3, 0), none, none, some (.ifCond .ne 7, 9, 13, 0, 0), none, none, some (.ldc2_w 246, 12, 0, 0, (-9223372036854775806)), none, none, some (.lreturn, 13, 0, 0, 0), some (.lconst 1, 14, 0, 0, 1), some (.lstore_n 2, 15, 0, 0, 0), some (.lconst 1, 16, 0, 0, 1)],
  [some (.lstore 4, 18, 0, 0, 0), none, some (.iconst 0, 19, 0, 0, 0), some (.istore 6, 21, 0, 0, 0), none, some (.iload 6, 23, 0, 0, 0), none, some (.aload_n 0, 24, 0, 0, 0), some (.getfield 12, 27, 9, 0, 0), none, none, some (.getfield 207, 30, 4, 4, 0), none, none, some (.if_icmp .ge 37, 33, 67, 0, 0), none],
  [none, some (.lload_n 2, 34, 0, 0, 0), some (.aload_n 0, 35, 0, 0, 0), some (.getfield 78, 38, 9, 11, 0), none, none, some (.iload 6, 40, 0, 0, 0), none, some (.invokevirtual 274, 43, 49, 2, 0), none, none, some (.i2l, 44, 0, 0, 0), some (.lmul, 45, 0, 0, 0), some (.lstore_n 2, 46, 0, 0, 0), some (.lload 4, 48, 0, 0, 0), none],
  [some (.aload_n 0, 49, 0, 0, 0), some (.getfield 78, 52, 9, 11, 0), none, none, some (.iload 6, 54, 0, 0, 0), none, some (.invokevirtual 277, 57, 50, 2, 0), none, none, some (.i2l, 58, 0, 0, 0), some (.lmul, 59, 0, 0, 0), some (.lstore 4, 61, 0, 0, 0), none, some (.iinc 6 1, 64, 0, 0, 0), none, none],
  [some (.goto (-43), 67, 21, 0, 0), none, none, some (.lload_n 2, 68, 0, 0, 0), some (.lload 4, 70, 0, 0, 0), none, some (.iload_n 1, 71, 0, 0, 0), some (.invokestatic 257, 74, 106, 3, 0), none, none, some (.lreturn, 75, 0, 0, 0)]]
def T_X9_sheet : am_T := [[some (.iload_n 1, 1, 0, 0, 0), some (.invokestatic 159, 4, 90, 1, 0), none, none, some (.ifCond .eq 16, 7, 20, 0, 0), none, none, some (.iload_n 2, 8, 0, 0, 0), some (.invokestatic 280, 11, 91, 1, 0), none, none, some (.ifCond .eq 9, 14, 20, 0, 0), none, none, some (.iload_n 3, 15, 0, 0, 0), some (.bipush 60, 17, 0, 0, 0)],
  [none, some (.if_icmp .le 6, 20, 23, 0, 0), none, none, some (.bipush (-2), 22, 0, 0, 0), none, some (.ireturn, 23, 0, 0, 0), some (.iload_n 3, 24, 0, 0, 0), some (.ifCond .ge 9, 27, 33, 0, 0), none, none, some (.aload_n 0, 28, 0, 0, 0), some (.iconst 5, 29, 0, 0, 0), some (.invokevirtual 166, 32, 93, 2, 0), none, none],
  [some (.ireturn, 33, 0, 0, 0), some (.aload_n 0, 34, 0, 0, 0), some (.getfield 84, 37, 9, 12, 0), none, none, some (.iload_n 1, 38, 0, 0, 0), some (.aaload, 39, 0, 0, 0), some (.iload_n 2, 40, 0, 0, 0), some (.iload_n 3, 41, 0, 0, 0), some (.invokevirtual 283, 44, 43, 3, 0), none, none, some (.iload_n 3, 45, 0, 0, 0), some (.ireturn, 46, 0, 0, 0)]]
def T_X9_lose : am_T := [[some (.iload_n 1, 1, 0, 0, 0), some (.invokestatic 159, 4, 90, 1, 0), none, none, some (.ifCond .ne 6, 7, 10, 0, 0), none, none, some (.bipush (-2), 9, 0, 0, 0), none, some (.ireturn, 10, 0, 0, 0), some (.aload_n 0, 11, 0, 0, 0), some (.getfield 84, 14, 9, 12, 0), none, none, some (.iload_n 1, 15, 0, 0, 0), some (.aaload, 16, 0, 0, 0)],
  [some (.astore_n 2, 17, 0, 0, 0), some (.aload_n 2, 18, 0, 0, 0), some (.invokevirtual 162, 21, 42, 1, 0), none, none, some (.ifCond .eq 9, 24, 30, 0, 0), none, none, some (.aload_n 0, 25, 0, 0, 0), some (.iconst 1, 26, 0, 0, 0), some (.invokevirtual 166, 29, 93, 2, 0), none, none, some (.ireturn, 30, 0, 0, 0), some (.aload_n 2, 31, 0, 0, 0), some (.iconst (-1), 32, 0, 0, 0)],
  [some (.putfield 286, 35, 7, 1, 0), none, none, some (.aload_n 2, 36, 0, 0, 0), some (.getfield 170, 39, 7, 2, 0), none, none, some (.ireturn, 40, 0, 0, 0)]]
def T_X9_lay : am_T := [[some (.iload_n 1, 1, 0, 0, 0), some (.invokestatic 159, 4, 90, 1, 0), none, none, some (.ifCond .eq 10, 7, 14, 0, 0), none, none, some (.iload_n 2, 8, 0, 0, 0), some (.invokestatic 280, 11, 91, 1, 0), none, none, some (.ifCond .ne 6, 14, 17, 0, 0), none, none, some (.bipush (-2), 16, 0, 0, 0), none],
  [some (.ireturn, 17, 0, 0, 0), some (.aload_n 0, 18, 0, 0, 0), some (.getfield 84, 21, 9, 12, 0), none, none, some (.iload_n 1, 22, 0, 0, 0), some (.aaload, 23, 0, 0, 0), some (.iload_n 2, 24, 0, 0, 0), some (.iload_n 3, 25, 0, 0, 0), some (.invokevirtual 289, 28, 44, 3, 0), none, none, some (.istore 5, 30, 0, 0, 0), none, some (.iload 5, 32, 0, 0, 0), none],
  [some (.ifCond .eq 10, 35, 42, 0, 0), none, none, some (.aload_n 0, 36, 0, 0, 0), some (.iload 5, 38, 0, 0, 0), none, some (.invokevirtual 166, 41, 93, 2, 0), none, none, some (.ireturn, 42, 0, 0, 0), some (.aload_n 0, 43, 0, 0, 0), some (.getfield 84, 46, 9, 12, 0), none, none, some (.iload_n 1, 47, 0, 0, 0), some (.aaload, 48, 0, 0, 0)],
  [some (.iload_n 3, 49, 0, 0, 0), some (.iload 4, 51, 0, 0, 0), none, some (.invokevirtual 292, 54, 46, 3, 0), none, none, some (.iconst 1, 55, 0, 0, 0), some (.ireturn, 56, 0, 0, 0)]]
def T_X9_get : am_T := [[some (.iload_n 1, 1, 0, 0, 0), some (.invokestatic 159, 4, 90, 1, 0), none, none, some (.ifCond .eq 10, 7, 14, 0, 0), none, none, some (.iload_n 2, 8, 0, 0, 0), some (.invokestatic 280, 11, 91, 1, 0), none, none, some (.ifCond .ne 7, 14, 18, 0, 0), none, none, some (.ldc_w 295, 17, 0, 0, (-2147483648)), none],
  [none, some (.ireturn, 18, 0, 0, 0), some (.aload_n 0, 19, 0, 0, 0), some (.getfield 84, 22, 9, 12, 0), none, none, some (.iload_n 1, 23, 0, 0, 0), some (.aaload, 24, 0, 0, 0), some (.iload_n 2, 25, 0, 0, 0), some (.iload_n 3, 26, 0, 0, 0), some (.invokevirtual 289, 29, 44, 3, 0), none, none, some (.istore 4, 31, 0, 0, 0), none, some (.iload 4, 33, 0, 0, 0)],
  [none, some (.ifCond .eq 13, 36, 46, 0, 0), none, none, some (.aload_n 0, 37, 0, 0, 0), some (.iload 4, 39, 0, 0, 0), none, some (.putfield 88, 42, 9, 13, 0), none, none, some (.ldc_w 295, 45, 0, 0, (-2147483648)), none, none, some (.ireturn, 46, 0, 0, 0), some (.aload_n 0, 47, 0, 0, 0), some (.getfield 84, 50, 9, 12, 0)],
  [none, none, some (.iload_n 1, 51, 0, 0, 0), some (.aaload, 52, 0, 0, 0), some (.getfield 178, 55, 7, 0, 0), none, none, some (.iload_n 3, 56, 0, 0, 0), some (.iaload, 57, 0, 0, 0), some (.ireturn, 58, 0, 0, 0)]]
def T_X9_copy : am_T := [[some (.iload_n 1, 1, 0, 0, 0), some (.invokestatic 159, 4, 90, 1, 0), none, none, some (.ifCond .eq 10, 7, 14, 0, 0), none, none, some (.iload_n 3, 8, 0, 0, 0), some (.invokestatic 159, 11, 90, 1, 0), none, none, some (.ifCond .ne 6, 14, 17, 0, 0), none, none, some (.bipush (-2), 16, 0, 0, 0), none],
  [some (.ireturn, 17, 0, 0, 0), some (.aload_n 0, 18, 0, 0, 0), some (.getfield 84, 21, 9, 12, 0), none, none, some (.iload_n 1, 22, 0, 0, 0), some (.aaload, 23, 0, 0, 0), some (.astore 6, 25, 0, 0, 0), none, some (.aload_n 0, 26, 0, 0, 0), some (.getfield 84, 29, 9, 12, 0), none, none, some (.iload_n 3, 30, 0, 0, 0), some (.aaload, 31, 0, 0, 0), some (.astore 7, 33, 0, 0, 0)],
  [none, some (.aload 6, 35, 0, 0, 0), none, some (.invokevirtual 162, 38, 42, 1, 0), none, none, some (.ifCond .ne 11, 41, 49, 0, 0), none, none, some (.aload 7, 43, 0, 0, 0), none, some (.invokevirtual 162, 46, 42, 1, 0), none, none, some (.ifCond .eq 9, 49, 55, 0, 0), none],
  [none, some (.aload_n 0, 50, 0, 0, 0), some (.iconst 1, 51, 0, 0, 0), some (.invokevirtual 166, 54, 93, 2, 0), none, none, some (.ireturn, 55, 0, 0, 0), some (.aload 6, 57, 0, 0, 0), none, some (.getfield 286, 60, 7, 1, 0), none, none, some (.aload 7, 62, 0, 0, 0), none, some (.getfield 286, 65, 7, 1, 0), none],
  [none, some (.if_icmp .eq 9, 68, 74, 0, 0), none, none, some (.aload_n 0, 69, 0, 0, 0), some (.iconst 4, 70, 0, 0, 0), some (.invokevirtual 166, 73, 93, 2, 0), none, none, some (.ireturn, 74, 0, 0, 0), some (.aload 6, 76, 0, 0, 0), none, some (.iload_n 2, 77, 0, 0, 0), some (.iload 5, 79, 0, 0, 0), none, some (.invokevirtual 296, 82, 45, 3, 0)],
  [none, none, some (.ifCond .eq 15, 85, 97, 0, 0), none, none, some (.aload 7, 87, 0, 0, 0), none, some (.iload 4, 89, 0, 0, 0), none, some (.iload 5, 91, 0, 0, 0), none, some (.invokevirtual 296, 94, 45, 3, 0), none, none, some (.ifCond .ne 9, 97, 103, 0, 0), none],
  [none, some (.aload_n 0, 98, 0, 0, 0), some (.iconst 2, 99, 0, 0, 0), some (.invokevirtual 166, 102, 93, 2, 0), none, none, some (.ireturn, 103, 0, 0, 0), some (.aload 6, 105, 0, 0, 0), none, some (.getfield 178, 108, 7, 0, 0), none, none, some (.iload_n 2, 109, 0, 0, 0), some (.aload 7, 111, 0, 0, 0), none, some (.getfield 178, 114, 7, 0, 0)],
  [none, none, some (.iload 4, 116, 0, 0, 0), none, some (.iload 5, 118, 0, 0, 0), none, some (.invokestatic 299, 121, 1002, 5, 0), none, none, some (.iconst 1, 122, 0, 0, 0), some (.ireturn, 123, 0, 0, 0)]]
def T_X9_write : am_T := [[some (.iload_n 1, 1, 0, 0, 0), some (.invokestatic 159, 4, 90, 1, 0), none, none, some (.ifCond .ne 6, 7, 10, 0, 0), none, none, some (.bipush (-2), 9, 0, 0, 0), none, some (.ireturn, 10, 0, 0, 0), some (.aload_n 0, 11, 0, 0, 0), some (.getfield 84, 14, 9, 12, 0), none, none, some (.iload_n 1, 15, 0, 0, 0), some (.aaload, 16, 0, 0, 0)],
  [some (.astore_n 2, 17, 0, 0, 0), some (.aload_n 2, 18, 0, 0, 0), some (.invokevirtual 162, 21, 42, 1, 0), none, none, some (.ifCond .eq 9, 24, 30, 0, 0), none, none, some (.aload_n 0, 25, 0, 0, 0), some (.iconst 1, 26, 0, 0, 0), some (.invokevirtual 166, 29, 93, 2, 0), none, none, some (.ireturn, 30, 0, 0, 0), some (.aload_n 0, 31, 0, 0, 0), some (.invokevirtual 181, 34, 97, 1, 0)],
  [none, none, some (.aload_n 2, 35, 0, 0, 0), some (.getfield 170, 38, 7, 2, 0), none, none, some (.aload_n 0, 39, 0, 0, 0), some (.getfield 12, 42, 9, 0, 0), none, none, some (.getfield 207, 45, 4, 4, 0), none, none, some (.invokestatic 173, 48, 1003, 4, 0), none, none],
  [some (.istore_n 3, 49, 0, 0, 0), some (.iconst 0, 50, 0, 0, 0), some (.istore 4, 52, 0, 0, 0), none, some (.iload 4, 54, 0, 0, 0), none, some (.iload_n 3, 55, 0, 0, 0), some (.if_icmp .ge 25, 58, 80, 0, 0), none, none, some (.aload_n 2, 59, 0, 0, 0), some (.iload 4, 61, 0, 0, 0), none, some (.aload_n 0, 62, 0, 0, 0), some (.getfield 42, 65, 9, 5, 0), none],
  [none, some (.getfield 184, 68, 0, 3, 0), none, none, some (.iload 4, 70, 0, 0, 0), none, some (.iaload, 71, 0, 0, 0), some (.invokevirtual 292, 74, 46, 3, 0), none, none, some (.iinc 4 1, 77, 0, 0, 0), none, none, some (.goto (-25), 80, 52, 0, 0), none, none],
  [some (.iload_n 3, 81, 0, 0, 0), some (.ireturn, 82, 0, 0, 0)]]
def T_X9_count : am_T := [[some (.iload_n 1, 1, 0, 0, 0), some (.tableswitch 141 0 8 #[51, 59, 67, 87, 98, 106, 114, 126, 136], 52, 0, 0, 0), none, none, none, none, none, none, none, none, none, none, none, none, none, none],
  [none, none, none, none, none, none, none, none, none, none, none, none, none, none, none, none],
  [none, none, none, none, none, none, none, none, none, none, none, none, none, none, none, none],
  [none, none, none, none, some (.aload_n 0, 53, 0, 0, 0), some (.getfield 12, 56, 9, 0, 0), none, none, some (.getfield 207, 59, 4, 4, 0), none, none, some (.ireturn, 60, 0, 0, 0), some (.aload_n 0, 61, 0, 0, 0), some (.getfield 12, 64, 9, 0, 0), none, none],
  [some (.getfield 107, 67, 4, 3, 0), none, none, some (.ireturn, 68, 0, 0, 0), some (.aload_n 0, 69, 0, 0, 0), some (.invokevirtual 181, 72, 97, 1, 0), none, none, some (.aload_n 0, 73, 0, 0, 0), some (.getfield 12, 76, 9, 0, 0), none, none, some (.getfield 207, 79, 4, 4, 0), none, none, some (.aload_n 0, 80, 0, 0, 0)],
  [some (.getfield 42, 83, 9, 5, 0), none, none, some (.getfield 187, 86, 0, 5, 0), none, none, some (.isub, 87, 0, 0, 0), some (.ireturn, 88, 0, 0, 0), some (.aload_n 0, 89, 0, 0, 0), some (.getfield 19, 92, 9, 1, 0), none, none, some (.iconst 0, 93, 0, 0, 0), some (.bipush 60, 95, 0, 0, 0), none, some (.invokevirtual 136, 98, 35, 3, 0)],
  [none, none, some (.ireturn, 99, 0, 0, 0), some (.aload_n 0, 100, 0, 0, 0), some (.getfield 64, 103, 9, 9, 0), none, none, some (.getfield 233, 106, 1, 3, 0), none, none, some (.ireturn, 107, 0, 0, 0), some (.aload_n 0, 108, 0, 0, 0), some (.getfield 78, 111, 9, 11, 0), none, none, some (.getfield 265, 114, 8, 2, 0)],
  [none, none, some (.ireturn, 115, 0, 0, 0), some (.aload_n 0, 116, 0, 0, 0), some (.invokevirtual 181, 119, 97, 1, 0), none, none, some (.aload_n 0, 120, 0, 0, 0), some (.getfield 42, 123, 9, 5, 0), none, none, some (.invokevirtual 305, 126, 7, 1, 0), none, none, some (.ireturn, 127, 0, 0, 0), some (.aload_n 0, 128, 0, 0, 0)],
  [some (.getfield 26, 131, 9, 2, 0), none, none, some (.getfield 152, 134, 6, 0, 0), none, none, some (.iconst 0, 135, 0, 0, 0), some (.iaload, 136, 0, 0, 0), some (.ireturn, 137, 0, 0, 0), some (.aload_n 0, 138, 0, 0, 0), some (.getfield 88, 141, 9, 13, 0), none, none, some (.ireturn, 142, 0, 0, 0), some (.bipush (-2), 144, 0, 0, 0), none],
  [some (.ireturn, 145, 0, 0, 0)]]
def T_X9_digest : am_T := [[some (.ldc2_w 308, 3, 0, 0, 17), none, none, some (.lstore_n 1, 4, 0, 0, 0), some (.iconst 0, 5, 0, 0, 0), some (.istore_n 3, 6, 0, 0, 0), some (.iload_n 3, 7, 0, 0, 0), some (.bipush 7, 9, 0, 0, 0), none, some (.if_icmp .gt 22, 12, 31, 0, 0), none, none, some (.ldc2_w 310, 15, 0, 0, 31), none, none, some (.lload_n 1, 16, 0, 0, 0)],
  [some (.lmul, 17, 0, 0, 0), some (.aload_n 0, 18, 0, 0, 0), some (.iload_n 3, 19, 0, 0, 0), some (.invokevirtual 312, 22, 85, 2, 0), none, none, some (.i2l, 23, 0, 0, 0), some (.ladd, 24, 0, 0, 0), some (.lstore_n 1, 25, 0, 0, 0), some (.iinc 3 1, 28, 0, 0, 0), none, none, some (.goto (-22), 31, 6, 0, 0), none, none, some (.ldc2_w 310, 34, 0, 0, 31)],
  [none, none, some (.lload_n 1, 35, 0, 0, 0), some (.lmul, 36, 0, 0, 0), some (.aload_n 0, 37, 0, 0, 0), some (.invokevirtual 314, 40, 54, 1, 0), none, none, some (.i2l, 41, 0, 0, 0), some (.ladd, 42, 0, 0, 0), some (.lstore_n 1, 43, 0, 0, 0), some (.iconst 0, 44, 0, 0, 0), some (.istore_n 3, 45, 0, 0, 0), some (.iload_n 3, 46, 0, 0, 0), some (.aload_n 0, 47, 0, 0, 0), some (.getfield 12, 50, 9, 0, 0)],
  [none, none, some (.getfield 207, 53, 4, 4, 0), none, none, some (.if_icmp .ge 16, 56, 69, 0, 0), none, none, some (.aload_n 0, 57, 0, 0, 0), some (.lload_n 1, 58, 0, 0, 0), some (.iload_n 3, 59, 0, 0, 0), some (.invokevirtual 317, 62, 87, 3, 1), none, none, some (.lstore_n 1, 63, 0, 0, 0), some (.iinc 3 1, 66, 0, 0, 0)],
  [none, none, some (.goto (-21), 69, 45, 0, 0), none, none, some (.iconst 0, 70, 0, 0, 0), some (.istore_n 3, 71, 0, 0, 0), some (.iload_n 3, 72, 0, 0, 0), some (.bipush 7, 74, 0, 0, 0), none, some (.if_icmp .ge 22, 77, 96, 0, 0), none, none, some (.ldc2_w 310, 80, 0, 0, 31), none, none],
  [some (.lload_n 1, 81, 0, 0, 0), some (.lmul, 82, 0, 0, 0), some (.aload_n 0, 83, 0, 0, 0), some (.iload_n 3, 84, 0, 0, 0), some (.invokevirtual 321, 87, 62, 2, 0), none, none, some (.i2l, 88, 0, 0, 0), some (.ladd, 89, 0, 0, 0), some (.lstore_n 1, 90, 0, 0, 0), some (.iinc 3 1, 93, 0, 0, 0), none, none, some (.goto (-22), 96, 71, 0, 0), none, none],
  [some (.ldc2_w 310, 99, 0, 0, 31), none, none, some (.lload_n 1, 100, 0, 0, 0), some (.lmul, 101, 0, 0, 0), some (.aload_n 0, 102, 0, 0, 0), some (.iconst (-1), 103, 0, 0, 0), some (.invokevirtual 324, 106, 65, 2, 1), none, none, some (.i2l, 107, 0, 0, 0), some (.ladd, 108, 0, 0, 0), some (.lstore_n 1, 109, 0, 0, 0), some (.ldc2_w 310, 112, 0, 0, 31), none, none],
  [some (.lload_n 1, 113, 0, 0, 0), some (.lmul, 114, 0, 0, 0), some (.aload_n 0, 115, 0, 0, 0), some (.invokevirtual 327, 118, 67, 1, 0), none, none, some (.i2l, 119, 0, 0, 0), some (.ladd, 120, 0, 0, 0), some (.lstore_n 1, 121, 0, 0, 0), some (.ldc2_w 310, 124, 0, 0, 31), none, none, some (.lload_n 1, 125, 0, 0, 0), some (.lmul, 126, 0, 0, 0), some (.aload_n 0, 127, 0, 0, 0), some (.iconst 0, 128, 0, 0, 0)],
  [some (.invokevirtual 330, 131, 68, 2, 1), none, none, some (.i2l, 132, 0, 0, 0), some (.ladd, 133, 0, 0, 0), some (.lstore_n 1, 134, 0, 0, 0), some (.ldc2_w 310, 137, 0, 0, 31), none, none, some (.lload_n 1, 138, 0, 0, 0), some (.lmul, 139, 0, 0, 0), some (.aload_n 0, 140, 0, 0, 0), some (.iconst 1, 141, 0, 0, 0), some (.invokevirtual 330, 144, 68, 2, 1), none, none],
  [some (.i2l, 145, 0, 0, 0), some (.ladd, 146, 0, 0, 0), some (.lstore_n 1, 147, 0, 0, 0), some (.ldc2_w 310, 150, 0, 0, 31), none, none, some (.lload_n 1, 151, 0, 0, 0), some (.lmul, 152, 0, 0, 0), some (.aload_n 0, 153, 0, 0, 0), some (.iconst (-1), 154, 0, 0, 0), some (.invokevirtual 333, 157, 72, 2, 0), none, none, some (.i2l, 158, 0, 0, 0), some (.ladd, 159, 0, 0, 0), some (.lstore_n 1, 160, 0, 0, 0)],
  [some (.ldc2_w 310, 163, 0, 0, 31), none, none, some (.lload_n 1, 164, 0, 0, 0), some (.lmul, 165, 0, 0, 0), some (.aload_n 0, 166, 0, 0, 0), some (.invokevirtual 336, 169, 73, 1, 0), none, none, some (.i2l, 170, 0, 0, 0), some (.ladd, 171, 0, 0, 0), some (.lstore_n 1, 172, 0, 0, 0), some (.ldc2_w 310, 175, 0, 0, 31), none, none, some (.lload_n 1, 176, 0, 0, 0)],
  [some (.lmul, 177, 0, 0, 0), some (.aload_n 0, 178, 0, 0, 0), some (.iconst 0, 179, 0, 0, 0), some (.invokevirtual 339, 182, 78, 2, 0), none, none, some (.ladd, 183, 0, 0, 0), some (.lstore_n 1, 184, 0, 0, 0), some (.ldc2_w 310, 187, 0, 0, 31), none, none, some (.lload_n 1, 188, 0, 0, 0), some (.lmul, 189, 0, 0, 0), some (.aload_n 0, 190, 0, 0, 0), some (.iconst 1, 191, 0, 0, 0), some (.invokevirtual 339, 194, 78, 2, 0)],
  [none, none, some (.ladd, 195, 0, 0, 0), some (.lreturn, 196, 0, 0, 0)]]
def T_X9_digestPerson : am_T := [[some (.lload_n 1, 1, 0, 0, 0), some (.lstore 4, 3, 0, 0, 0), none, some (.iconst 0, 4, 0, 0, 0), some (.istore 6, 6, 0, 0, 0), none, some (.iload 6, 8, 0, 0, 0), none, some (.iconst 3, 9, 0, 0, 0), some (.if_icmp .gt 26, 12, 35, 0, 0), none, none, some (.ldc2_w 310, 15, 0, 0, 31), none, none, some (.lload 4, 17, 0, 0, 0)],
  [none, some (.lmul, 18, 0, 0, 0), some (.aload_n 0, 19, 0, 0, 0), some (.iload_n 3, 20, 0, 0, 0), some (.iload 6, 22, 0, 0, 0), none, some (.invokevirtual 343, 25, 55, 3, 0), none, none, some (.i2l, 26, 0, 0, 0), some (.ladd, 27, 0, 0, 0), some (.lstore 4, 29, 0, 0, 0), none, some (.iinc 6 1, 32, 0, 0, 0), none, none],
  [some (.goto (-26), 35, 6, 0, 0), none, none, some (.ldc2_w 310, 38, 0, 0, 31), none, none, some (.lload 4, 40, 0, 0, 0), none, some (.lmul, 41, 0, 0, 0), some (.aload_n 0, 42, 0, 0, 0), some (.iload_n 3, 43, 0, 0, 0), some (.invokevirtual 346, 46, 61, 2, 0), none, none, some (.i2l, 47, 0, 0, 0), some (.ladd, 48, 0, 0, 0)],
  [some (.lstore 4, 50, 0, 0, 0), none, some (.ldc2_w 310, 53, 0, 0, 31), none, none, some (.lload 4, 55, 0, 0, 0), none, some (.lmul, 56, 0, 0, 0), some (.aload_n 0, 57, 0, 0, 0), some (.iload_n 3, 58, 0, 0, 0), some (.invokevirtual 349, 61, 63, 2, 0), none, none, some (.i2l, 62, 0, 0, 0), some (.ladd, 63, 0, 0, 0), some (.lstore 4, 65, 0, 0, 0)],
  [none, some (.ldc2_w 310, 68, 0, 0, 31), none, none, some (.lload 4, 70, 0, 0, 0), none, some (.lmul, 71, 0, 0, 0), some (.aload_n 0, 72, 0, 0, 0), some (.iload_n 3, 73, 0, 0, 0), some (.iconst 0, 74, 0, 0, 0), some (.invokevirtual 352, 77, 64, 3, 0), none, none, some (.i2l, 78, 0, 0, 0), some (.ladd, 79, 0, 0, 0), some (.lstore 4, 81, 0, 0, 0)],
  [none, some (.ldc2_w 310, 84, 0, 0, 31), none, none, some (.lload 4, 86, 0, 0, 0), none, some (.lmul, 87, 0, 0, 0), some (.aload_n 0, 88, 0, 0, 0), some (.iload_n 3, 89, 0, 0, 0), some (.iconst 1, 90, 0, 0, 0), some (.invokevirtual 352, 93, 64, 3, 0), none, none, some (.i2l, 94, 0, 0, 0), some (.ladd, 95, 0, 0, 0), some (.lstore 4, 97, 0, 0, 0)],
  [none, some (.ldc2_w 310, 100, 0, 0, 31), none, none, some (.lload 4, 102, 0, 0, 0), none, some (.lmul, 103, 0, 0, 0), some (.aload_n 0, 104, 0, 0, 0), some (.iload_n 3, 105, 0, 0, 0), some (.invokevirtual 324, 108, 65, 2, 1), none, none, some (.i2l, 109, 0, 0, 0), some (.ladd, 110, 0, 0, 0), some (.lstore 4, 112, 0, 0, 0), none],
  [some (.ldc2_w 310, 115, 0, 0, 31), none, none, some (.lload 4, 117, 0, 0, 0), none, some (.lmul, 118, 0, 0, 0), some (.aload_n 0, 119, 0, 0, 0), some (.iload_n 3, 120, 0, 0, 0), some (.invokevirtual 333, 123, 72, 2, 0), none, none, some (.i2l, 124, 0, 0, 0), some (.ladd, 125, 0, 0, 0), some (.lstore 4, 127, 0, 0, 0), none, some (.ldc2_w 310, 130, 0, 0, 31)],
  [none, none, some (.lload 4, 132, 0, 0, 0), none, some (.lmul, 133, 0, 0, 0), some (.aload_n 0, 134, 0, 0, 0), some (.iload_n 3, 135, 0, 0, 0), some (.iconst 0, 136, 0, 0, 0), some (.invokevirtual 355, 139, 74, 3, 0), none, none, some (.ladd, 140, 0, 0, 0), some (.lstore 4, 142, 0, 0, 0), none, some (.ldc2_w 310, 145, 0, 0, 31), none],
  [none, some (.lload 4, 147, 0, 0, 0), none, some (.lmul, 148, 0, 0, 0), some (.aload_n 0, 149, 0, 0, 0), some (.iload_n 3, 150, 0, 0, 0), some (.iconst 1, 151, 0, 0, 0), some (.invokevirtual 355, 154, 74, 3, 0), none, none, some (.ladd, 155, 0, 0, 0), some (.lstore 4, 157, 0, 0, 0), none, some (.ldc2_w 310, 160, 0, 0, 31), none, none],
  [some (.lload 4, 162, 0, 0, 0), none, some (.lmul, 163, 0, 0, 0), some (.aload_n 0, 164, 0, 0, 0), some (.iload_n 3, 165, 0, 0, 0), some (.iconst 0, 166, 0, 0, 0), some (.invokevirtual 359, 169, 77, 3, 0), none, none, some (.ladd, 170, 0, 0, 0), some (.lstore 4, 172, 0, 0, 0), none, some (.ldc2_w 310, 175, 0, 0, 31), none, none, some (.lload 4, 177, 0, 0, 0)],
  [none, some (.lmul, 178, 0, 0, 0), some (.aload_n 0, 179, 0, 0, 0), some (.iload_n 3, 180, 0, 0, 0), some (.iconst 1, 181, 0, 0, 0), some (.invokevirtual 359, 184, 77, 3, 0), none, none, some (.ladd, 185, 0, 0, 0), some (.lstore 4, 187, 0, 0, 0), none, some (.ldc2_w 310, 190, 0, 0, 31), none, none, some (.lload 4, 192, 0, 0, 0), none],
  [some (.lmul, 193, 0, 0, 0), some (.aload_n 0, 194, 0, 0, 0), some (.bipush 7, 196, 0, 0, 0), none, some (.iload_n 3, 197, 0, 0, 0), some (.invokevirtual 362, 200, 75, 3, 0), none, none, some (.i2l, 201, 0, 0, 0), some (.ladd, 202, 0, 0, 0), some (.lreturn, 203, 0, 0, 0)]]
def T_X9_within : am_T := [[some (.iload_n 0, 1, 0, 0, 0), some (.iload_n 1, 2, 0, 0, 0), some (.if_icmp .lt 12, 5, 14, 0, 0), none, none, some (.iload_n 0, 6, 0, 0, 0), some (.iload_n 2, 7, 0, 0, 0), some (.if_icmp .gt 7, 10, 14, 0, 0), none, none, some (.iconst 1, 11, 0, 0, 0), some (.goto 4, 14, 15, 0, 0), none, none, some (.iconst 0, 15, 0, 0, 0), some (.ireturn, 16, 0, 1, 0)]]
def T_X9_isNumber : am_T := [[some (.iload_n 0, 1, 0, 0, 0), some (.iconst 0, 2, 0, 0, 0), some (.bipush 6, 4, 0, 0, 0), none, some (.invokestatic 103, 7, 88, 3, 0), none, none, some (.ireturn, 8, 0, 1, 0)]]
def T_X9_isSheet : am_T := [[some (.iload_n 0, 1, 0, 0, 0), some (.iconst 0, 2, 0, 0, 0), some (.iconst 3, 3, 0, 0, 0), some (.invokestatic 103, 6, 88, 3, 0), none, none, some (.ireturn, 7, 0, 1, 0)]]
def T_X9_isForm : am_T := [[some (.iload_n 0, 1, 0, 0, 0), some (.iconst 0, 2, 0, 0, 0), some (.iconst 2, 3, 0, 0, 0), some (.invokestatic 103, 6, 88, 3, 0), none, none, some (.ireturn, 7, 0, 1, 0)]]
def T_X9_isThere : am_T := [[some (.iload_n 1, 1, 0, 0, 0), some (.iconst 0, 2, 0, 0, 0), some (.aload_n 0, 3, 0, 0, 0), some (.getfield 12, 6, 9, 0, 0), none, none, some (.getfield 207, 9, 4, 4, 0), none, none, some (.iconst 1, 10, 0, 0, 0), some (.isub, 11, 0, 0, 0), some (.invokestatic 103, 14, 88, 3, 0), none, none, some (.ireturn, 15, 0, 1, 0)]]
def T_X9_finding : am_T := [[some (.aload_n 0, 1, 0, 0, 0), some (.iload_n 1, 2, 0, 0, 0), some (.putfield 88, 5, 9, 13, 0), none, none, some (.bipush (-10), 7, 0, 0, 0), none, some (.iload_n 1, 8, 0, 0, 0), some (.isub, 9, 0, 0, 0), some (.ireturn, 10, 0, 0, 0)]]
def T_X9_dropAnswers : am_T := [[some (.aload_n 0, 1, 0, 0, 0), some (.iconst 0, 2, 0, 0, 0), some (.putfield 92, 5, 9, 14, 0), none, none, some (.aload_n 0, 6, 0, 0, 0), some (.iconst 0, 7, 0, 0, 0), some (.putfield 96, 10, 9, 15, 0), none, none, some (.aload_n 0, 11, 0, 0, 0), some (.iconst 0, 12, 0, 0, 0), some (.putfield 99, 15, 9, 16, 0), none, none, some (.return_, 16, 0, 0, 0)]]
def T_X9_minuteInside : am_T := [[some (.bipush 59, 2, 0, 0, 0), none, some (.aload_n 0, 3, 0, 0, 0), some (.getfield 12, 6, 9, 0, 0), none, none, some (.getfield 130, 9, 4, 1, 0), none, none, some (.iload_n 1, 10, 0, 0, 0), some (.iaload, 11, 0, 0, 0), some (.iload_n 2, 12, 0, 0, 0), some (.iadd, 13, 0, 0, 0), some (.invokestatic 173, 16, 1003, 4, 0), none, none],
  [some (.ireturn, 17, 0, 0, 0)]]
def T_X9_gather : am_T := [[some (.iconst 0, 1, 0, 0, 0), some (.istore_n 1, 2, 0, 0, 0), some (.iload_n 1, 3, 0, 0, 0), some (.aload_n 0, 4, 0, 0, 0), some (.getfield 12, 7, 9, 0, 0), none, none, some (.getfield 207, 10, 4, 4, 0), none, none, some (.if_icmp .ge 26, 13, 36, 0, 0), none, none, some (.aload_n 0, 14, 0, 0, 0), some (.getfield 34, 17, 9, 4, 0), none],
  [none, some (.iload_n 1, 18, 0, 0, 0), some (.aload_n 0, 19, 0, 0, 0), some (.iload_n 1, 20, 0, 0, 0), some (.aload_n 0, 21, 0, 0, 0), some (.getfield 30, 24, 9, 3, 0), none, none, some (.iload_n 1, 25, 0, 0, 0), some (.iaload, 26, 0, 0, 0), some (.invokevirtual 126, 29, 95, 3, 0), none, none, some (.iastore, 30, 0, 0, 0), some (.iinc 1 1, 33, 0, 0, 0), none],
  [none, some (.goto (-31), 36, 2, 0, 0), none, none, some (.return_, 37, 0, 0, 0)]]
def T_X9_seatAll : am_T := [[some (.aload_n 0, 1, 0, 0, 0), some (.invokevirtual 196, 4, 96, 1, 0), none, none, some (.aload_n 0, 5, 0, 0, 0), some (.getfield 42, 8, 9, 5, 0), none, none, some (.aload_n 0, 9, 0, 0, 0), some (.getfield 34, 12, 9, 4, 0), none, none, some (.aload_n 0, 13, 0, 0, 0), some (.invokevirtual 199, 16, 98, 1, 0), none, none],
  [some (.aload_n 0, 17, 0, 0, 0), some (.getfield 26, 20, 9, 2, 0), none, none, some (.getfield 152, 23, 6, 0, 0), none, none, some (.iconst 1, 24, 0, 0, 0), some (.iaload, 25, 0, 0, 0), some (.invokevirtual 203, 28, 1, 4, 0), none, none, some (.return_, 29, 0, 0, 0)]]
def T_X9_everybody : am_T := [[some (.iconst 1, 1, 0, 0, 0), some (.aload_n 0, 2, 0, 0, 0), some (.getfield 12, 5, 9, 0, 0), none, none, some (.getfield 207, 8, 4, 4, 0), none, none, some (.ishl, 9, 0, 0, 0), some (.iconst 1, 10, 0, 0, 0), some (.isub, 11, 0, 0, 0), some (.ireturn, 12, 0, 0, 0)]]
def T_X9_wouldChange : am_T := [[some (.aload_n 0, 1, 0, 0, 0), some (.getfield 42, 4, 9, 5, 0), none, none, some (.iload_n 1, 5, 0, 0, 0), some (.aload_n 0, 6, 0, 0, 0), some (.getfield 34, 9, 9, 4, 0), none, none, some (.iload_n 1, 10, 0, 0, 0), some (.iaload, 11, 0, 0, 0), some (.invokevirtual 193, 14, 4, 3, 0), none, none, some (.istore_n 3, 15, 0, 0, 0), some (.aload_n 0, 16, 0, 0, 0)],
  [some (.getfield 42, 19, 9, 5, 0), none, none, some (.iload_n 2, 20, 0, 0, 0), some (.aload_n 0, 21, 0, 0, 0), some (.getfield 34, 24, 9, 4, 0), none, none, some (.iload_n 2, 25, 0, 0, 0), some (.iaload, 26, 0, 0, 0), some (.invokevirtual 193, 29, 4, 3, 0), none, none, some (.istore 4, 31, 0, 0, 0), none, some (.aload_n 0, 32, 0, 0, 0)],
  [some (.getfield 42, 35, 9, 5, 0), none, none, some (.iload_n 1, 36, 0, 0, 0), some (.iload_n 2, 37, 0, 0, 0), some (.invokevirtual 365, 40, 6, 3, 0), none, none, some (.aload_n 0, 41, 0, 0, 0), some (.getfield 42, 44, 9, 5, 0), none, none, some (.iload_n 1, 45, 0, 0, 0), some (.aload_n 0, 46, 0, 0, 0), some (.getfield 34, 49, 9, 4, 0), none],
  [none, some (.iload_n 1, 50, 0, 0, 0), some (.iaload, 51, 0, 0, 0), some (.invokevirtual 193, 54, 4, 3, 0), none, none, some (.iload_n 3, 55, 0, 0, 0), some (.if_icmp .le 26, 58, 81, 0, 0), none, none, some (.aload_n 0, 59, 0, 0, 0), some (.getfield 42, 62, 9, 5, 0), none, none, some (.iload_n 2, 63, 0, 0, 0), some (.aload_n 0, 64, 0, 0, 0)],
  [some (.getfield 34, 67, 9, 4, 0), none, none, some (.iload_n 2, 68, 0, 0, 0), some (.iaload, 69, 0, 0, 0), some (.invokevirtual 193, 72, 4, 3, 0), none, none, some (.iload 4, 74, 0, 0, 0), none, some (.if_icmp .le 7, 77, 81, 0, 0), none, none, some (.iconst 1, 78, 0, 0, 0), some (.goto 4, 81, 82, 0, 0), none],
  [none, some (.iconst 0, 82, 0, 0, 0), some (.istore 5, 84, 0, 0, 0), none, some (.aload_n 0, 85, 0, 0, 0), some (.getfield 42, 88, 9, 5, 0), none, none, some (.iload_n 1, 89, 0, 0, 0), some (.iload_n 2, 90, 0, 0, 0), some (.invokevirtual 365, 93, 6, 3, 0), none, none, some (.iload 5, 95, 0, 0, 0), none, some (.ireturn, 96, 0, 1, 0)]]
def T_X9_findRest : am_T := [[some (.aload_n 0, 1, 0, 0, 0), some (.getfield 92, 4, 9, 14, 0), none, none, some (.ifCond .eq 4, 7, 8, 0, 0), none, none, some (.return_, 8, 0, 0, 0), some (.aload_n 0, 9, 0, 0, 0), some (.getfield 12, 12, 9, 0, 0), none, none, some (.getfield 207, 15, 4, 4, 0), none, none, some (.istore_n 1, 16, 0, 0, 0)],
  [some (.aload_n 0, 17, 0, 0, 0), some (.getfield 54, 20, 9, 7, 0), none, none, some (.iload_n 1, 21, 0, 0, 0), some (.iconst 1, 22, 0, 0, 0), some (.invokevirtual 368, 25, 11, 3, 1), none, none, some (.iconst 0, 26, 0, 0, 0), some (.istore_n 2, 27, 0, 0, 0), some (.iload_n 2, 28, 0, 0, 0), some (.aload_n 0, 29, 0, 0, 0), some (.getfield 54, 32, 9, 7, 0), none, none],
  [some (.getfield 372, 35, 2, 5, 0), none, none, some (.if_icmp .ge 74, 38, 109, 0, 0), none, none, some (.aload_n 0, 39, 0, 0, 0), some (.iload_n 2, 40, 0, 0, 0), some (.invokevirtual 375, 43, 101, 2, 0), none, none, some (.aload_n 0, 44, 0, 0, 0), some (.getfield 42, 47, 9, 5, 0), none, none, some (.aload_n 0, 48, 0, 0, 0)],
  [some (.getfield 34, 51, 9, 4, 0), none, none, some (.aload_n 0, 52, 0, 0, 0), some (.invokevirtual 199, 55, 98, 1, 0), none, none, some (.aload_n 0, 56, 0, 0, 0), some (.getfield 26, 59, 9, 2, 0), none, none, some (.getfield 152, 62, 6, 0, 0), none, none, some (.iconst 1, 63, 0, 0, 0), some (.iaload, 64, 0, 0, 0)],
  [some (.invokevirtual 203, 67, 1, 4, 0), none, none, some (.iconst 0, 68, 0, 0, 0), some (.istore_n 3, 69, 0, 0, 0), some (.iload_n 3, 70, 0, 0, 0), some (.iload_n 1, 71, 0, 0, 0), some (.if_icmp .ge 32, 74, 103, 0, 0), none, none, some (.aload_n 0, 75, 0, 0, 0), some (.getfield 54, 78, 9, 7, 0), none, none, some (.iload_n 2, 79, 0, 0, 0), some (.iload_n 3, 80, 0, 0, 0)],
  [some (.aload_n 0, 81, 0, 0, 0), some (.getfield 42, 84, 9, 5, 0), none, none, some (.iload_n 3, 85, 0, 0, 0), some (.aload_n 0, 86, 0, 0, 0), some (.getfield 34, 89, 9, 4, 0), none, none, some (.iload_n 3, 90, 0, 0, 0), some (.iaload, 91, 0, 0, 0), some (.invokevirtual 193, 94, 4, 3, 0), none, none, some (.invokevirtual 378, 97, 13, 4, 0), none],
  [none, some (.iinc 3 1, 100, 0, 0, 0), none, none, some (.goto (-31), 103, 69, 0, 0), none, none, some (.iinc 2 1, 106, 0, 0, 0), none, none, some (.goto (-79), 109, 27, 0, 0), none, none, some (.aload_n 0, 110, 0, 0, 0), some (.getfield 54, 113, 9, 7, 0), none],
  [none, some (.invokevirtual 382, 116, 14, 1, 0), none, none, some (.aload_n 0, 117, 0, 0, 0), some (.iconst 1, 118, 0, 0, 0), some (.putfield 92, 121, 9, 14, 0), none, none, some (.return_, 122, 0, 0, 0)]]
def T_X9_waitByRow : am_T := [[some (.aload_n 0, 1, 0, 0, 0), some (.getfield 12, 4, 9, 0, 0), none, none, some (.getfield 207, 7, 4, 4, 0), none, none, some (.iconst 1, 8, 0, 0, 0), some (.isub, 9, 0, 0, 0), some (.istore_n 2, 10, 0, 0, 0), some (.iload_n 2, 11, 0, 0, 0), some (.ifCond .lt 46, 14, 57, 0, 0), none, none, some (.aload_n 0, 15, 0, 0, 0), some (.getfield 54, 18, 9, 7, 0)],
  [none, none, some (.iload_n 1, 19, 0, 0, 0), some (.iload_n 2, 20, 0, 0, 0), some (.invokevirtual 219, 23, 12, 3, 0), none, none, some (.istore_n 3, 24, 0, 0, 0), some (.aload_n 0, 25, 0, 0, 0), some (.getfield 34, 28, 9, 4, 0), none, none, some (.iload_n 2, 29, 0, 0, 0), some (.aload_n 0, 30, 0, 0, 0), some (.iload_n 2, 31, 0, 0, 0), some (.aload_n 0, 32, 0, 0, 0)],
  [some (.getfield 26, 35, 9, 2, 0), none, none, some (.getfield 152, 38, 6, 0, 0), none, none, some (.iconst 5, 39, 0, 0, 0), some (.iaload, 40, 0, 0, 0), some (.iload_n 3, 41, 0, 0, 0), some (.imul, 42, 0, 0, 0), some (.invokevirtual 126, 45, 95, 3, 0), none, none, some (.iastore, 46, 0, 0, 0), some (.iload_n 3, 47, 0, 0, 0), some (.ifCond .eq 4, 50, 51, 0, 0)],
  [none, none, some (.return_, 51, 0, 0, 0), some (.iinc 2 (-1), 54, 0, 0, 0), none, none, some (.goto (-44), 57, 10, 0, 0), none, none, some (.return_, 58, 0, 0, 0)]]
def T_X9_findChoosing : am_T := [[some (.aload_n 0, 1, 0, 0, 0), some (.getfield 96, 4, 9, 15, 0), none, none, some (.ifCond .eq 4, 7, 8, 0, 0), none, none, some (.return_, 8, 0, 0, 0), some (.aload_n 0, 9, 0, 0, 0), some (.invokevirtual 196, 12, 96, 1, 0), none, none, some (.aload_n 0, 13, 0, 0, 0), some (.getfield 12, 16, 9, 0, 0), none, none],
  [some (.getfield 207, 19, 4, 4, 0), none, none, some (.istore_n 1, 20, 0, 0, 0), some (.aload_n 0, 21, 0, 0, 0), some (.getfield 58, 24, 9, 8, 0), none, none, some (.iload_n 1, 25, 0, 0, 0), some (.iconst 0, 26, 0, 0, 0), some (.invokevirtual 368, 29, 11, 3, 1), none, none, some (.iconst 0, 30, 0, 0, 0), some (.istore_n 2, 31, 0, 0, 0), some (.iload_n 2, 32, 0, 0, 0)],
  [some (.aload_n 0, 33, 0, 0, 0), some (.getfield 58, 36, 9, 8, 0), none, none, some (.getfield 372, 39, 2, 5, 0), none, none, some (.if_icmp .ge 101, 42, 140, 0, 0), none, none, some (.aload_n 0, 43, 0, 0, 0), some (.getfield 42, 46, 9, 5, 0), none, none, some (.aload_n 0, 47, 0, 0, 0), some (.getfield 34, 50, 9, 4, 0)],
  [none, none, some (.aload_n 0, 51, 0, 0, 0), some (.invokevirtual 199, 54, 98, 1, 0), none, none, some (.iload_n 2, 55, 0, 0, 0), some (.iconst (-1), 56, 0, 0, 0), some (.ixor, 57, 0, 0, 0), some (.iand, 58, 0, 0, 0), some (.iconst 0, 59, 0, 0, 0), some (.invokevirtual 203, 62, 1, 4, 0), none, none, some (.aload_n 0, 63, 0, 0, 0), some (.getfield 46, 66, 9, 6, 0)],
  [none, none, some (.aload_n 0, 67, 0, 0, 0), some (.getfield 34, 70, 9, 4, 0), none, none, some (.iload_n 2, 71, 0, 0, 0), some (.iconst 1, 72, 0, 0, 0), some (.invokevirtual 203, 75, 1, 4, 0), none, none, some (.iconst 0, 76, 0, 0, 0), some (.istore_n 3, 77, 0, 0, 0), some (.iload_n 3, 78, 0, 0, 0), some (.iload_n 1, 79, 0, 0, 0), some (.if_icmp .ge 55, 82, 134, 0, 0)],
  [none, none, some (.aload_n 0, 83, 0, 0, 0), some (.getfield 58, 86, 9, 8, 0), none, none, some (.iload_n 2, 87, 0, 0, 0), some (.iload_n 3, 88, 0, 0, 0), some (.invokevirtual 219, 91, 12, 3, 0), none, none, some (.ifCond .ne 10, 94, 101, 0, 0), none, none, some (.aload_n 0, 95, 0, 0, 0), some (.getfield 42, 98, 9, 5, 0)],
  [none, none, some (.goto 7, 101, 105, 0, 0), none, none, some (.aload_n 0, 102, 0, 0, 0), some (.getfield 46, 105, 9, 6, 0), none, none, some (.astore 4, 107, 0, 0, 0), none, some (.aload_n 0, 108, 0, 0, 0), some (.getfield 58, 111, 9, 8, 0), none, none, some (.iload_n 2, 112, 0, 0, 0)],
  [some (.iload_n 3, 113, 0, 0, 0), some (.aload 4, 115, 0, 0, 0), none, some (.iload_n 3, 116, 0, 0, 0), some (.aload_n 0, 117, 0, 0, 0), some (.getfield 34, 120, 9, 4, 0), none, none, some (.iload_n 3, 121, 0, 0, 0), some (.iaload, 122, 0, 0, 0), some (.invokevirtual 193, 125, 4, 3, 0), none, none, some (.invokevirtual 378, 128, 13, 4, 0), none, none],
  [some (.iinc 3 1, 131, 0, 0, 0), none, none, some (.goto (-54), 134, 77, 0, 0), none, none, some (.iinc 2 1, 137, 0, 0, 0), none, none, some (.goto (-106), 140, 31, 0, 0), none, none, some (.aload_n 0, 141, 0, 0, 0), some (.getfield 58, 144, 9, 8, 0), none, none],
  [some (.invokevirtual 382, 147, 14, 1, 0), none, none, some (.aload_n 0, 148, 0, 0, 0), some (.iconst 1, 149, 0, 0, 0), some (.putfield 96, 152, 9, 15, 0), none, none, some (.return_, 153, 0, 0, 0)]]
def T_X9_addFact : am_T := [[some (.aload_n 0, 1, 0, 0, 0), some (.getfield 64, 4, 9, 9, 0), none, none, some (.getfield 233, 7, 1, 3, 0), none, none, some (.bipush 8, 9, 0, 0, 0), none, some (.if_icmp .lt 6, 12, 15, 0, 0), none, none, some (.bipush (-4), 14, 0, 0, 0), none, some (.ireturn, 15, 0, 0, 0), some (.aload_n 0, 16, 0, 0, 0)],
  [some (.getfield 64, 19, 9, 9, 0), none, none, some (.iload_n 1, 20, 0, 0, 0), some (.iload_n 2, 21, 0, 0, 0), some (.iload_n 3, 22, 0, 0, 0), some (.invokevirtual 385, 25, 9, 4, 0), none, none, some (.aload_n 0, 26, 0, 0, 0), some (.iconst 0, 27, 0, 0, 0), some (.putfield 99, 30, 9, 16, 0), none, none, some (.aload_n 0, 31, 0, 0, 0), some (.getfield 64, 34, 9, 9, 0)],
  [none, none, some (.getfield 233, 37, 1, 3, 0), none, none, some (.ireturn, 38, 0, 0, 0)]]
def T_X9_findOrders : am_T := [[some (.aload_n 0, 1, 0, 0, 0), some (.getfield 99, 4, 9, 16, 0), none, none, some (.ifCond .ne 35, 7, 39, 0, 0), none, none, some (.aload_n 0, 8, 0, 0, 0), some (.getfield 71, 11, 9, 10, 0), none, none, some (.aload_n 0, 12, 0, 0, 0), some (.getfield 64, 15, 9, 9, 0), none, none, some (.aload_n 0, 16, 0, 0, 0)],
  [some (.getfield 12, 19, 9, 0, 0), none, none, some (.getfield 207, 22, 4, 4, 0), none, none, some (.aload_n 0, 23, 0, 0, 0), some (.getfield 26, 26, 9, 2, 0), none, none, some (.getfield 152, 29, 6, 0, 0), none, none, some (.iconst 1, 30, 0, 0, 0), some (.iaload, 31, 0, 0, 0), some (.invokevirtual 387, 34, 18, 4, 0)],
  [none, none, some (.aload_n 0, 35, 0, 0, 0), some (.iconst 1, 36, 0, 0, 0), some (.putfield 99, 39, 9, 16, 0), none, none, some (.return_, 40, 0, 0, 0)]]
def T_X9_freeSeat : am_T := [[some (.iload_n 1, 1, 0, 0, 0), some (.istore_n 2, 2, 0, 0, 0), some (.iconst 0, 3, 0, 0, 0), some (.istore_n 3, 4, 0, 0, 0), some (.iload_n 3, 5, 0, 0, 0), some (.bipush 7, 7, 0, 0, 0), none, some (.if_icmp .ge 26, 10, 33, 0, 0), none, none, some (.iload_n 0, 11, 0, 0, 0), some (.iload_n 3, 12, 0, 0, 0), some (.ishr, 13, 0, 0, 0), some (.iconst 1, 14, 0, 0, 0), some (.iand, 15, 0, 0, 0), some (.ifCond .ne 12, 18, 27, 0, 0)],
  [none, none, some (.iload_n 2, 19, 0, 0, 0), some (.ifCond .ne 5, 22, 24, 0, 0), none, none, some (.iload_n 3, 23, 0, 0, 0), some (.ireturn, 24, 0, 0, 0), some (.iinc 2 (-1), 27, 0, 0, 0), none, none, some (.iinc 3 1, 30, 0, 0, 0), none, none, some (.goto (-26), 33, 4, 0, 0), none],
  [none, some (.iconst 0, 34, 0, 0, 0), some (.ireturn, 35, 0, 0, 0)]]
def T_X9_lowestTerms : am_T := [[some (.lconst 1, 1, 0, 0, 1), some (.lload_n 0, 2, 0, 0, 0), some (.invokestatic 391, 5, 1003, 1, 0), none, none, some (.lload_n 2, 6, 0, 0, 0), some (.invokestatic 395, 9, 107, 2, 0), none, none, some (.invokestatic 399, 12, 1003, 3, 0), none, none, some (.lstore 5, 14, 0, 0, 0), none, some (.iload 4, 16, 0, 0, 0), none],
  [some (.ifCond .ne 7, 19, 23, 0, 0), none, none, some (.lload_n 0, 20, 0, 0, 0), some (.goto 4, 23, 24, 0, 0), none, none, some (.lload_n 2, 24, 0, 0, 0), some (.lload 5, 26, 0, 0, 0), none, some (.ldiv, 27, 0, 0, 0), some (.lreturn, 28, 0, 0, 0)]]
def T_X9_commonDivisor : am_T := [[some (.lload_n 0, 1, 0, 0, 0), some (.lstore 4, 3, 0, 0, 0), none, some (.lload_n 2, 4, 0, 0, 0), some (.lstore 6, 6, 0, 0, 0), none, some (.iconst 0, 7, 0, 0, 0), some (.istore 8, 9, 0, 0, 0), none, some (.iload 8, 11, 0, 0, 0), none, some (.bipush 100, 13, 0, 0, 0), none, some (.if_icmp .ge 31, 16, 44, 0, 0), none, none],
  [some (.lload 6, 18, 0, 0, 0), none, some (.lconst 0, 19, 0, 0, 0), some (.lcmp, 20, 0, 0, 0), some (.ifCond .eq 24, 23, 44, 0, 0), none, none, some (.lload 4, 25, 0, 0, 0), none, some (.lload 6, 27, 0, 0, 0), none, some (.lrem, 28, 0, 0, 0), some (.lstore 9, 30, 0, 0, 0), none, some (.lload 6, 32, 0, 0, 0), none],
  [some (.lstore 4, 34, 0, 0, 0), none, some (.lload 9, 36, 0, 0, 0), none, some (.lstore 6, 38, 0, 0, 0), none, some (.iinc 8 1, 41, 0, 0, 0), none, none, some (.goto (-32), 44, 9, 0, 0), none, none, some (.lload 4, 46, 0, 0, 0), none, some (.lreturn, 47, 0, 0, 0)]]
def T_X10_init : am_T := [[some (.aload_n 0, 1, 0, 0, 0), some (.invokespecial 1, 4, 1000, 1, 0), none, none, some (.aload_n 0, 5, 0, 0, 0), some (.iconst 4, 6, 0, 0, 0), some (.newarray .int, 8, 0, 0, 0), none, some (.putfield 7, 11, 10, 0, 1), none, none, some (.aload_n 0, 12, 0, 0, 0), some (.iconst 4, 13, 0, 0, 0), some (.newarray .int, 15, 0, 0, 0), none, some (.putfield 13, 18, 10, 1, 1)],
  [none, none, some (.aload_n 0, 19, 0, 0, 0), some (.sipush 240, 22, 0, 0, 0), none, none, some (.newarray .int, 24, 0, 0, 0), none, some (.putfield 16, 27, 10, 2, 1), none, none, some (.aload_n 0, 28, 0, 0, 0), some (.bipush 60, 30, 0, 0, 0), none, some (.newarray .int, 32, 0, 0, 0), none],
  [some (.putfield 19, 35, 10, 3, 1), none, none, some (.aload_n 0, 36, 0, 0, 0), some (.bipush 40, 38, 0, 0, 0), none, some (.newarray .int, 40, 0, 0, 0), none, some (.putfield 22, 43, 10, 5, 1), none, none, some (.aload_n 0, 44, 0, 0, 0), some (.bipush 7, 46, 0, 0, 0), none, some (.newarray .int, 48, 0, 0, 0), none],
  [some (.putfield 25, 51, 10, 9, 1), none, none, some (.aload_n 0, 52, 0, 0, 0), some (.bipush 7, 54, 0, 0, 0), none, some (.newarray .int, 56, 0, 0, 0), none, some (.putfield 28, 59, 10, 10, 1), none, none, some (.aload_n 0, 60, 0, 0, 0), some (.bipush 7, 62, 0, 0, 0), none, some (.newarray .int, 64, 0, 0, 0), none],
  [some (.putfield 31, 67, 10, 11, 1), none, none, some (.aload_n 0, 68, 0, 0, 0), some (.bipush 60, 70, 0, 0, 0), none, some (.newarray .int, 72, 0, 0, 0), none, some (.putfield 34, 75, 10, 12, 1), none, none, some (.aload_n 0, 76, 0, 0, 0), some (.bipush 6, 78, 0, 0, 0), none, some (.newarray .int, 80, 0, 0, 0), none],
  [some (.putfield 37, 83, 10, 13, 1), none, none, some (.aload_n 0, 84, 0, 0, 0), some (.bipush 49, 86, 0, 0, 0), none, some (.newarray .int, 88, 0, 0, 0), none, some (.putfield 40, 91, 10, 14, 1), none, none, some (.aload_n 0, 92, 0, 0, 0), some (.bipush 7, 94, 0, 0, 0), none, some (.newarray .int, 96, 0, 0, 0), none],
  [some (.putfield 43, 99, 10, 15, 1), none, none, some (.aload_n 0, 100, 0, 0, 0), some (.bipush 7, 102, 0, 0, 0), none, some (.newarray .int, 104, 0, 0, 0), none, some (.putfield 46, 107, 10, 16, 1), none, none, some (.aload_n 0, 108, 0, 0, 0), some (.bipush 24, 110, 0, 0, 0), none, some (.newarray .int, 112, 0, 0, 0), none],
  [some (.putfield 49, 115, 10, 20, 1), none, none, some (.aload_n 0, 116, 0, 0, 0), some (.bipush 7, 118, 0, 0, 0), none, some (.newarray .int, 120, 0, 0, 0), none, some (.putfield 52, 123, 10, 21, 1), none, none, some (.aload_n 0, 124, 0, 0, 0), some (.bipush 7, 126, 0, 0, 0), none, some (.newarray .int, 128, 0, 0, 0), none],
  [some (.putfield 55, 131, 10, 22, 1), none, none, some (.aload_n 0, 132, 0, 0, 0), some (.bipush 49, 134, 0, 0, 0), none, some (.newarray .boolean, 136, 0, 0, 0), none, some (.putfield 58, 139, 10, 23, 1), none, none, some (.aload_n 0, 140, 0, 0, 0), some (.bipush 7, 142, 0, 0, 0), none, some (.newarray .long, 144, 0, 0, 0), none],
  [some (.putfield 62, 147, 10, 24, 1), none, none, some (.aload_n 0, 148, 0, 0, 0), some (.bipush 7, 150, 0, 0, 0), none, some (.newarray .int, 152, 0, 0, 0), none, some (.putfield 66, 155, 10, 28, 1), none, none, some (.aload_n 0, 156, 0, 0, 0), some (.bipush 7, 158, 0, 0, 0), none, some (.newarray .int, 160, 0, 0, 0), none],
  [some (.putfield 69, 163, 10, 29, 1), none, none, some (.iconst 0, 164, 0, 0, 0), some (.istore_n 1, 165, 0, 0, 0), some (.iload_n 1, 166, 0, 0, 0), some (.iconst 4, 167, 0, 0, 0), some (.if_icmp .ge 16, 170, 183, 0, 0), none, none, some (.aload_n 0, 171, 0, 0, 0), some (.getfield 7, 174, 10, 0, 0), none, none, some (.iload_n 1, 175, 0, 0, 0), some (.iconst (-1), 176, 0, 0, 0)],
  [some (.iastore, 177, 0, 0, 0), some (.iinc 1 1, 180, 0, 0, 0), none, none, some (.goto (-15), 183, 165, 0, 0), none, none, some (.aload_n 0, 184, 0, 0, 0), some (.getfield 37, 187, 10, 13, 0), none, none, some (.iconst 0, 188, 0, 0, 0), some (.bipush 60, 190, 0, 0, 0), none, some (.iastore, 191, 0, 0, 0), some (.aload_n 0, 192, 0, 0, 0)],
  [some (.getfield 37, 195, 10, 13, 0), none, none, some (.iconst 2, 196, 0, 0, 0), some (.iconst 2, 197, 0, 0, 0), some (.iastore, 198, 0, 0, 0), some (.aload_n 0, 199, 0, 0, 0), some (.getfield 37, 202, 10, 13, 0), none, none, some (.iconst 3, 203, 0, 0, 0), some (.iconst 2, 204, 0, 0, 0), some (.iastore, 205, 0, 0, 0), some (.aload_n 0, 206, 0, 0, 0), some (.getfield 37, 209, 10, 13, 0), none],
  [none, some (.iconst 4, 210, 0, 0, 0), some (.iconst 1, 211, 0, 0, 0), some (.iastore, 212, 0, 0, 0), some (.aload_n 0, 213, 0, 0, 0), some (.getfield 37, 216, 10, 13, 0), none, none, some (.iconst 5, 217, 0, 0, 0), some (.iconst 5, 218, 0, 0, 0), some (.iastore, 219, 0, 0, 0), some (.return_, 220, 0, 0, 0)]]
def T_X10_in : am_T := [[some (.lload_n 0, 1, 0, 0, 0), some (.lload_n 2, 2, 0, 0, 0), some (.lcmp, 3, 0, 0, 0), some (.ifCond .lt 14, 6, 17, 0, 0), none, none, some (.lload_n 0, 7, 0, 0, 0), some (.lload 4, 9, 0, 0, 0), none, some (.lcmp, 10, 0, 0, 0), some (.ifCond .gt 7, 13, 17, 0, 0), none, none, some (.iconst 1, 14, 0, 0, 0), some (.goto 4, 17, 18, 0, 0), none],
  [none, some (.iconst 0, 18, 0, 0, 0), some (.ireturn, 19, 0, 1, 0)]]
def T_X10_no : am_T := [[some (.ldc2_w 72, 3, 0, 0, (-9223372036854775808)), none, none, some (.iload_n 0, 4, 0, 0, 0), some (.i2l, 5, 0, 0, 0), some (.lsub, 6, 0, 0, 0), some (.lreturn, 7, 0, 0, 0)]]
def T_X10_isTwo : am_T := [[some (.iload_n 0, 1, 0, 0, 0), some (.i2l, 2, 0, 0, 0), some (.lconst 0, 3, 0, 0, 0), some (.lconst 1, 4, 0, 0, 1), some (.invokestatic 74, 7, 109, 3, 0), none, none, some (.ireturn, 8, 0, 1, 0)]]
def T_X10_isSeven : am_T := [[some (.iload_n 0, 1, 0, 0, 0), some (.i2l, 2, 0, 0, 0), some (.lconst 0, 3, 0, 0, 0), some (.ldc2_w 78, 6, 0, 0, 6), none, none, some (.invokestatic 74, 9, 109, 3, 0), none, none, some (.ireturn, 10, 0, 1, 0)]]
def T_X10_isIn : am_T := [[some (.iload_n 0, 1, 0, 0, 0), some (.iload_n 1, 2, 0, 0, 0), some (.ishr, 3, 0, 0, 0), some (.iconst 1, 4, 0, 0, 0), some (.iand, 5, 0, 0, 0), some (.iconst 1, 6, 0, 0, 0), some (.if_icmp .ne 7, 9, 13, 0, 0), none, none, some (.iconst 1, 10, 0, 0, 0), some (.goto 4, 13, 14, 0, 0), none, none, some (.iconst 0, 14, 0, 0, 0), some (.ireturn, 15, 0, 1, 0)]]
def T_X10_met : am_T := [[some (.aload_n 0, 1, 0, 0, 0), some (.iload_n 1, 2, 0, 0, 0), some (.putfield 80, 5, 10, 4, 0), none, none, some (.bipush (-10), 7, 0, 0, 0), none, some (.iload_n 1, 8, 0, 0, 0), some (.isub, 9, 0, 0, 0), some (.ireturn, 10, 0, 0, 0)]]
def T_X10_isSheet : am_T := [[some (.iload_n 0, 1, 0, 0, 0), some (.i2l, 2, 0, 0, 0), some (.lconst 0, 3, 0, 0, 0), some (.ldc2_w 84, 6, 0, 0, 3), none, none, some (.invokestatic 74, 9, 109, 3, 0), none, none, some (.ireturn, 10, 0, 1, 0)]]
def T_X10_sheet : am_T := [[some (.iload_n 1, 1, 0, 0, 0), some (.invokestatic 86, 4, 115, 1, 0), none, none, some (.ifCond .eq 21, 7, 25, 0, 0), none, none, some (.iload_n 2, 8, 0, 0, 0), some (.i2l, 9, 0, 0, 0), some (.lconst 0, 10, 0, 0, 0), some (.ldc2_w 90, 13, 0, 0, 2), none, none, some (.invokestatic 74, 16, 109, 3, 0), none, none],
  [some (.ifCond .eq 9, 19, 25, 0, 0), none, none, some (.iload_n 3, 20, 0, 0, 0), some (.bipush 60, 22, 0, 0, 0), none, some (.if_icmp .le 6, 25, 28, 0, 0), none, none, some (.bipush (-2), 27, 0, 0, 0), none, some (.ireturn, 28, 0, 0, 0), some (.iload_n 3, 29, 0, 0, 0), some (.ifCond .ge 9, 32, 38, 0, 0), none, none],
  [some (.aload_n 0, 33, 0, 0, 0), some (.iconst 5, 34, 0, 0, 0), some (.invokevirtual 92, 37, 114, 2, 0), none, none, some (.ireturn, 38, 0, 0, 0), some (.aload_n 0, 39, 0, 0, 0), some (.getfield 7, 42, 10, 0, 0), none, none, some (.iload_n 1, 43, 0, 0, 0), some (.iload_n 2, 44, 0, 0, 0), some (.iastore, 45, 0, 0, 0), some (.aload_n 0, 46, 0, 0, 0), some (.getfield 13, 49, 10, 1, 0), none],
  [none, some (.iload_n 1, 50, 0, 0, 0), some (.iload_n 3, 51, 0, 0, 0), some (.iastore, 52, 0, 0, 0), some (.iconst 0, 53, 0, 0, 0), some (.istore 4, 55, 0, 0, 0), none, some (.iload 4, 57, 0, 0, 0), none, some (.iload_n 3, 58, 0, 0, 0), some (.if_icmp .ge 22, 61, 80, 0, 0), none, none, some (.aload_n 0, 62, 0, 0, 0), some (.getfield 16, 65, 10, 2, 0), none],
  [none, some (.bipush 60, 67, 0, 0, 0), none, some (.iload_n 1, 68, 0, 0, 0), some (.imul, 69, 0, 0, 0), some (.iload 4, 71, 0, 0, 0), none, some (.iadd, 72, 0, 0, 0), some (.iconst 0, 73, 0, 0, 0), some (.iastore, 74, 0, 0, 0), some (.iinc 4 1, 77, 0, 0, 0), none, none, some (.goto (-22), 80, 55, 0, 0), none, none],
  [some (.iload_n 3, 81, 0, 0, 0), some (.ireturn, 82, 0, 0, 0)]]
def T_X10_lose : am_T := [[some (.iload_n 1, 1, 0, 0, 0), some (.invokestatic 86, 4, 115, 1, 0), none, none, some (.ifCond .ne 6, 7, 10, 0, 0), none, none, some (.bipush (-2), 9, 0, 0, 0), none, some (.ireturn, 10, 0, 0, 0), some (.aload_n 0, 11, 0, 0, 0), some (.getfield 7, 14, 10, 0, 0), none, none, some (.iload_n 1, 15, 0, 0, 0), some (.iaload, 16, 0, 0, 0)],
  [some (.ifCond .ge 9, 19, 25, 0, 0), none, none, some (.aload_n 0, 20, 0, 0, 0), some (.iconst 1, 21, 0, 0, 0), some (.invokevirtual 92, 24, 114, 2, 0), none, none, some (.ireturn, 25, 0, 0, 0), some (.aload_n 0, 26, 0, 0, 0), some (.getfield 7, 29, 10, 0, 0), none, none, some (.iload_n 1, 30, 0, 0, 0), some (.iconst (-1), 31, 0, 0, 0), some (.iastore, 32, 0, 0, 0)],
  [some (.aload_n 0, 33, 0, 0, 0), some (.getfield 13, 36, 10, 1, 0), none, none, some (.iload_n 1, 37, 0, 0, 0), some (.iaload, 38, 0, 0, 0), some (.ireturn, 39, 0, 0, 0)]]
def T_X10_lacks : am_T := [[some (.aload_n 0, 1, 0, 0, 0), some (.getfield 7, 4, 10, 0, 0), none, none, some (.iload_n 1, 5, 0, 0, 0), some (.iaload, 6, 0, 0, 0), some (.ifCond .ge 9, 9, 15, 0, 0), none, none, some (.aload_n 0, 10, 0, 0, 0), some (.iconst 1, 11, 0, 0, 0), some (.invokevirtual 92, 14, 114, 2, 0), none, none, some (.ireturn, 15, 0, 0, 0), some (.aload_n 0, 16, 0, 0, 0)],
  [some (.getfield 7, 19, 10, 0, 0), none, none, some (.iload_n 1, 20, 0, 0, 0), some (.iaload, 21, 0, 0, 0), some (.iload_n 2, 22, 0, 0, 0), some (.if_icmp .eq 9, 25, 31, 0, 0), none, none, some (.aload_n 0, 26, 0, 0, 0), some (.iconst 3, 27, 0, 0, 0), some (.invokevirtual 92, 30, 114, 2, 0), none, none, some (.ireturn, 31, 0, 0, 0), some (.iload_n 3, 32, 0, 0, 0)],
  [some (.i2l, 33, 0, 0, 0), some (.lconst 0, 34, 0, 0, 0), some (.aload_n 0, 35, 0, 0, 0), some (.getfield 13, 38, 10, 1, 0), none, none, some (.iload_n 1, 39, 0, 0, 0), some (.iaload, 40, 0, 0, 0), some (.iconst 1, 41, 0, 0, 0), some (.isub, 42, 0, 0, 0), some (.i2l, 43, 0, 0, 0), some (.invokestatic 74, 46, 109, 3, 0), none, none, some (.ifCond .eq 7, 49, 53, 0, 0), none],
  [none, some (.iconst 0, 50, 0, 0, 0), some (.goto 8, 53, 58, 0, 0), none, none, some (.aload_n 0, 54, 0, 0, 0), some (.iconst 2, 55, 0, 0, 0), some (.invokevirtual 92, 58, 114, 2, 0), none, none, some (.ireturn, 59, 0, 0, 0)]]
def T_X10_cut : am_T := [[some (.iload_n 0, 1, 0, 0, 0), some (.ifCond .ne 8, 4, 9, 0, 0), none, none, some (.iload_n 1, 5, 0, 0, 0), some (.i2b, 6, 0, 0, 0), some (.goto 14, 9, 20, 0, 0), none, none, some (.iload_n 0, 10, 0, 0, 0), some (.iconst 1, 11, 0, 0, 0), some (.if_icmp .ne 8, 14, 19, 0, 0), none, none, some (.iload_n 1, 15, 0, 0, 0), some (.i2s, 16, 0, 0, 0)],
  [some (.goto 4, 19, 20, 0, 0), none, none, some (.iload_n 1, 20, 0, 0, 0), some (.ireturn, 21, 0, 0, 0)]]
def T_X10_lay : am_T := [[some (.iload_n 1, 1, 0, 0, 0), some (.invokestatic 86, 4, 115, 1, 0), none, none, some (.ifCond .eq 15, 7, 19, 0, 0), none, none, some (.iload_n 2, 8, 0, 0, 0), some (.i2l, 9, 0, 0, 0), some (.lconst 0, 10, 0, 0, 0), some (.ldc2_w 90, 13, 0, 0, 2), none, none, some (.invokestatic 74, 16, 109, 3, 0), none, none],
  [some (.ifCond .ne 6, 19, 22, 0, 0), none, none, some (.bipush (-2), 21, 0, 0, 0), none, some (.ireturn, 22, 0, 0, 0), some (.aload_n 0, 23, 0, 0, 0), some (.iload_n 1, 24, 0, 0, 0), some (.iload_n 2, 25, 0, 0, 0), some (.iload_n 3, 26, 0, 0, 0), some (.invokevirtual 96, 29, 118, 4, 0), none, none, some (.istore 5, 31, 0, 0, 0), none, some (.iload 5, 33, 0, 0, 0)],
  [none, some (.ifCond .eq 6, 36, 39, 0, 0), none, none, some (.iload 5, 38, 0, 0, 0), none, some (.ireturn, 39, 0, 0, 0), some (.aload_n 0, 40, 0, 0, 0), some (.getfield 16, 43, 10, 2, 0), none, none, some (.bipush 60, 45, 0, 0, 0), none, some (.iload_n 1, 46, 0, 0, 0), some (.imul, 47, 0, 0, 0), some (.iload_n 3, 48, 0, 0, 0)],
  [some (.iadd, 49, 0, 0, 0), some (.iload_n 2, 50, 0, 0, 0), some (.iload 4, 52, 0, 0, 0), none, some (.invokestatic 100, 55, 119, 2, 0), none, none, some (.iastore, 56, 0, 0, 0), some (.iconst 1, 57, 0, 0, 0), some (.ireturn, 58, 0, 0, 0)]]
def T_X10_get : am_T := [[some (.iload_n 1, 1, 0, 0, 0), some (.invokestatic 86, 4, 115, 1, 0), none, none, some (.ifCond .eq 25, 7, 29, 0, 0), none, none, some (.iload_n 2, 8, 0, 0, 0), some (.i2l, 9, 0, 0, 0), some (.lconst 0, 10, 0, 0, 0), some (.ldc2_w 90, 13, 0, 0, 2), none, none, some (.invokestatic 74, 16, 109, 3, 0), none, none],
  [some (.ifCond .eq 13, 19, 29, 0, 0), none, none, some (.aload_n 0, 20, 0, 0, 0), some (.iload_n 1, 21, 0, 0, 0), some (.iload_n 2, 22, 0, 0, 0), some (.iload_n 3, 23, 0, 0, 0), some (.invokevirtual 96, 26, 118, 4, 0), none, none, some (.ifCond .eq 6, 29, 32, 0, 0), none, none, some (.ldc 104, 31, 0, 0, (-2147483648)), none, some (.ireturn, 32, 0, 0, 0)],
  [some (.aload_n 0, 33, 0, 0, 0), some (.getfield 16, 36, 10, 2, 0), none, none, some (.bipush 60, 38, 0, 0, 0), none, some (.iload_n 1, 39, 0, 0, 0), some (.imul, 40, 0, 0, 0), some (.iload_n 3, 41, 0, 0, 0), some (.iadd, 42, 0, 0, 0), some (.iaload, 43, 0, 0, 0), some (.ireturn, 44, 0, 0, 0)]]
def T_X10_copy : am_T := [[some (.iload_n 1, 1, 0, 0, 0), some (.invokestatic 86, 4, 115, 1, 0), none, none, some (.ifCond .eq 10, 7, 14, 0, 0), none, none, some (.iload_n 3, 8, 0, 0, 0), some (.invokestatic 86, 11, 115, 1, 0), none, none, some (.ifCond .ne 6, 14, 17, 0, 0), none, none, some (.bipush (-2), 16, 0, 0, 0), none],
  [some (.ireturn, 17, 0, 0, 0), some (.aload_n 0, 18, 0, 0, 0), some (.getfield 7, 21, 10, 0, 0), none, none, some (.iload_n 1, 22, 0, 0, 0), some (.iaload, 23, 0, 0, 0), some (.ifCond .lt 12, 26, 35, 0, 0), none, none, some (.aload_n 0, 27, 0, 0, 0), some (.getfield 7, 30, 10, 0, 0), none, none, some (.iload_n 3, 31, 0, 0, 0), some (.iaload, 32, 0, 0, 0)],
  [some (.ifCond .ge 9, 35, 41, 0, 0), none, none, some (.aload_n 0, 36, 0, 0, 0), some (.iconst 1, 37, 0, 0, 0), some (.invokevirtual 92, 40, 114, 2, 0), none, none, some (.ireturn, 41, 0, 0, 0), some (.aload_n 0, 42, 0, 0, 0), some (.getfield 7, 45, 10, 0, 0), none, none, some (.iload_n 1, 46, 0, 0, 0), some (.iaload, 47, 0, 0, 0), some (.aload_n 0, 48, 0, 0, 0)],
  [some (.getfield 7, 51, 10, 0, 0), none, none, some (.iload_n 3, 52, 0, 0, 0), some (.iaload, 53, 0, 0, 0), some (.if_icmp .eq 9, 56, 62, 0, 0), none, none, some (.aload_n 0, 57, 0, 0, 0), some (.iconst 4, 58, 0, 0, 0), some (.invokevirtual 92, 61, 114, 2, 0), none, none, some (.ireturn, 62, 0, 0, 0), some (.iload_n 2, 63, 0, 0, 0), some (.ifCond .lt 48, 66, 111, 0, 0)],
  [none, none, some (.iload 4, 68, 0, 0, 0), none, some (.ifCond .lt 43, 71, 111, 0, 0), none, none, some (.iload 5, 73, 0, 0, 0), none, some (.ifCond .lt 38, 76, 111, 0, 0), none, none, some (.iload_n 2, 77, 0, 0, 0), some (.i2l, 78, 0, 0, 0), some (.iload 5, 80, 0, 0, 0), none],
  [some (.i2l, 81, 0, 0, 0), some (.ladd, 82, 0, 0, 0), some (.aload_n 0, 83, 0, 0, 0), some (.getfield 13, 86, 10, 1, 0), none, none, some (.iload_n 1, 87, 0, 0, 0), some (.iaload, 88, 0, 0, 0), some (.i2l, 89, 0, 0, 0), some (.lcmp, 90, 0, 0, 0), some (.ifCond .gt 21, 93, 111, 0, 0), none, none, some (.iload 4, 95, 0, 0, 0), none, some (.i2l, 96, 0, 0, 0)],
  [some (.iload 5, 98, 0, 0, 0), none, some (.i2l, 99, 0, 0, 0), some (.ladd, 100, 0, 0, 0), some (.aload_n 0, 101, 0, 0, 0), some (.getfield 13, 104, 10, 1, 0), none, none, some (.iload_n 3, 105, 0, 0, 0), some (.iaload, 106, 0, 0, 0), some (.i2l, 107, 0, 0, 0), some (.lcmp, 108, 0, 0, 0), some (.ifCond .le 9, 111, 117, 0, 0), none, none, some (.aload_n 0, 112, 0, 0, 0)],
  [some (.iconst 2, 113, 0, 0, 0), some (.invokevirtual 92, 116, 114, 2, 0), none, none, some (.ireturn, 117, 0, 0, 0), some (.iconst 0, 118, 0, 0, 0), some (.istore 6, 120, 0, 0, 0), none, some (.iload 6, 122, 0, 0, 0), none, some (.iload 5, 124, 0, 0, 0), none, some (.if_icmp .ge 30, 127, 154, 0, 0), none, none, some (.aload_n 0, 128, 0, 0, 0)],
  [some (.getfield 19, 131, 10, 3, 0), none, none, some (.iload 6, 133, 0, 0, 0), none, some (.aload_n 0, 134, 0, 0, 0), some (.getfield 16, 137, 10, 2, 0), none, none, some (.bipush 60, 139, 0, 0, 0), none, some (.iload_n 1, 140, 0, 0, 0), some (.imul, 141, 0, 0, 0), some (.iload_n 2, 142, 0, 0, 0), some (.iadd, 143, 0, 0, 0), some (.iload 6, 145, 0, 0, 0)],
  [none, some (.iadd, 146, 0, 0, 0), some (.iaload, 147, 0, 0, 0), some (.iastore, 148, 0, 0, 0), some (.iinc 6 1, 151, 0, 0, 0), none, none, some (.goto (-31), 154, 120, 0, 0), none, none, some (.iconst 0, 155, 0, 0, 0), some (.istore 6, 157, 0, 0, 0), none, some (.iload 6, 159, 0, 0, 0), none, some (.iload 5, 161, 0, 0, 0)],
  [none, some (.if_icmp .ge 31, 164, 192, 0, 0), none, none, some (.aload_n 0, 165, 0, 0, 0), some (.getfield 16, 168, 10, 2, 0), none, none, some (.bipush 60, 170, 0, 0, 0), none, some (.iload_n 3, 171, 0, 0, 0), some (.imul, 172, 0, 0, 0), some (.iload 4, 174, 0, 0, 0), none, some (.iadd, 175, 0, 0, 0), some (.iload 6, 177, 0, 0, 0)],
  [none, some (.iadd, 178, 0, 0, 0), some (.aload_n 0, 179, 0, 0, 0), some (.getfield 19, 182, 10, 3, 0), none, none, some (.iload 6, 184, 0, 0, 0), none, some (.iaload, 185, 0, 0, 0), some (.iastore, 186, 0, 0, 0), some (.iinc 6 1, 189, 0, 0, 0), none, none, some (.goto (-32), 192, 157, 0, 0), none, none],
  [some (.iconst 1, 193, 0, 0, 0), some (.ireturn, 194, 0, 0, 0)]]
def T_X10_type : am_T := [[some (.iload_n 1, 1, 0, 0, 0), some (.i2l, 2, 0, 0, 0), some (.lconst 0, 3, 0, 0, 0), some (.ldc2_w 105, 6, 0, 0, 255), none, none, some (.invokestatic 74, 9, 109, 3, 0), none, none, some (.ifCond .ne 6, 12, 15, 0, 0), none, none, some (.bipush (-2), 14, 0, 0, 0), none, some (.ireturn, 15, 0, 0, 0), some (.aload_n 0, 16, 0, 0, 0)],
  [some (.getfield 107, 19, 10, 6, 0), none, none, some (.bipush 40, 21, 0, 0, 0), none, some (.if_icmp .ne 6, 24, 27, 0, 0), none, none, some (.bipush (-4), 26, 0, 0, 0), none, some (.ireturn, 27, 0, 0, 0), some (.aload_n 0, 28, 0, 0, 0), some (.getfield 22, 31, 10, 5, 0), none, none, some (.aload_n 0, 32, 0, 0, 0)],
  [some (.getfield 107, 35, 10, 6, 0), none, none, some (.iload_n 1, 36, 0, 0, 0), some (.iastore, 37, 0, 0, 0), some (.aload_n 0, 38, 0, 0, 0), some (.dup, 39, 0, 0, 0), some (.getfield 107, 42, 10, 6, 0), none, none, some (.iconst 1, 43, 0, 0, 0), some (.iadd, 44, 0, 0, 0), some (.putfield 107, 47, 10, 6, 0), none, none, some (.aload_n 0, 48, 0, 0, 0)],
  [some (.getfield 107, 51, 10, 6, 0), none, none, some (.ireturn, 52, 0, 0, 0)]]
def T_X10_wipe : am_T := [[some (.aload_n 0, 1, 0, 0, 0), some (.getfield 107, 4, 10, 6, 0), none, none, some (.istore_n 1, 5, 0, 0, 0), some (.aload_n 0, 6, 0, 0, 0), some (.iconst 0, 7, 0, 0, 0), some (.putfield 107, 10, 10, 6, 0), none, none, some (.iload_n 1, 11, 0, 0, 0), some (.ireturn, 12, 0, 0, 0)]]
def T_X10_here : am_T := [[some (.aload_n 0, 1, 0, 0, 0), some (.getfield 110, 4, 10, 7, 0), none, none, some (.aload_n 0, 5, 0, 0, 0), some (.getfield 107, 8, 10, 6, 0), none, none, some (.if_icmp .ge 15, 11, 23, 0, 0), none, none, some (.aload_n 0, 12, 0, 0, 0), some (.getfield 22, 15, 10, 5, 0), none, none, some (.aload_n 0, 16, 0, 0, 0)],
  [some (.getfield 110, 19, 10, 7, 0), none, none, some (.iaload, 20, 0, 0, 0), some (.goto 4, 23, 24, 0, 0), none, none, some (.iconst (-1), 24, 0, 0, 0), some (.ireturn, 25, 0, 0, 0)]]
def T_X10_nobody : am_T := [[some (.aload_n 0, 1, 0, 0, 0), some (.iconst 0, 2, 0, 0, 0), some (.putfield 113, 5, 10, 8, 0), none, none, some (.aload_n 0, 6, 0, 0, 0), some (.getfield 110, 9, 10, 7, 0), none, none, some (.ireturn, 10, 0, 0, 0)]]
def T_X10_figure : am_T := [[some (.aload_n 0, 1, 0, 0, 0), some (.invokevirtual 116, 4, 125, 1, 0), none, none, some (.bipush 48, 6, 0, 0, 0), none, some (.isub, 7, 0, 0, 0), some (.istore_n 2, 8, 0, 0, 0), some (.iload_n 2, 9, 0, 0, 0), some (.i2l, 10, 0, 0, 0), some (.lconst 0, 11, 0, 0, 0), some (.iload_n 1, 12, 0, 0, 0), some (.i2l, 13, 0, 0, 0), some (.invokestatic 74, 16, 109, 3, 0), none, none],
  [some (.ifCond .ne 5, 19, 21, 0, 0), none, none, some (.iconst (-1), 20, 0, 0, 0), some (.ireturn, 21, 0, 0, 0), some (.aload_n 0, 22, 0, 0, 0), some (.dup, 23, 0, 0, 0), some (.getfield 110, 26, 10, 7, 0), none, none, some (.iconst 1, 27, 0, 0, 0), some (.iadd, 28, 0, 0, 0), some (.putfield 110, 31, 10, 7, 0), none, none, some (.iload_n 2, 32, 0, 0, 0)],
  [some (.ireturn, 33, 0, 0, 0)]]
def T_X10_readsPart : am_T := [[some (.aload_n 0, 1, 0, 0, 0), some (.getfield 113, 4, 10, 8, 0), none, none, some (.bipush 7, 6, 0, 0, 0), none, some (.if_icmp .ne 5, 9, 11, 0, 0), none, none, some (.iconst 0, 10, 0, 0, 0), some (.ireturn, 11, 0, 1, 0), some (.aload_n 0, 12, 0, 0, 0), some (.iconst 5, 13, 0, 0, 0), some (.invokevirtual 120, 16, 127, 2, 0), none, none],
  [some (.istore_n 1, 17, 0, 0, 0), some (.iload_n 1, 18, 0, 0, 0), some (.iconst (-1), 19, 0, 0, 0), some (.if_icmp .ne 7, 22, 26, 0, 0), none, none, some (.iconst (-1), 23, 0, 0, 0), some (.goto 9, 26, 32, 0, 0), none, none, some (.aload_n 0, 27, 0, 0, 0), some (.bipush 9, 29, 0, 0, 0), none, some (.invokevirtual 120, 32, 127, 2, 0), none, none],
  [some (.istore_n 2, 33, 0, 0, 0), some (.iload_n 2, 34, 0, 0, 0), some (.iconst (-1), 35, 0, 0, 0), some (.if_icmp .ne 7, 38, 42, 0, 0), none, none, some (.iconst (-1), 39, 0, 0, 0), some (.goto 9, 42, 48, 0, 0), none, none, some (.aload_n 0, 43, 0, 0, 0), some (.bipush 6, 45, 0, 0, 0), none, some (.invokevirtual 120, 48, 127, 2, 0), none, none],
  [some (.istore_n 3, 49, 0, 0, 0), some (.iload_n 3, 50, 0, 0, 0), some (.iconst (-1), 51, 0, 0, 0), some (.if_icmp .ne 5, 54, 56, 0, 0), none, none, some (.iconst 0, 55, 0, 0, 0), some (.ireturn, 56, 0, 1, 0), some (.aload_n 0, 57, 0, 0, 0), some (.getfield 25, 60, 10, 9, 0), none, none, some (.aload_n 0, 61, 0, 0, 0), some (.getfield 113, 64, 10, 8, 0), none, none],
  [some (.bipush 10, 66, 0, 0, 0), none, some (.iload_n 1, 67, 0, 0, 0), some (.imul, 68, 0, 0, 0), some (.iload_n 2, 69, 0, 0, 0), some (.iadd, 70, 0, 0, 0), some (.iastore, 71, 0, 0, 0), some (.aload_n 0, 72, 0, 0, 0), some (.getfield 28, 75, 10, 10, 0), none, none, some (.aload_n 0, 76, 0, 0, 0), some (.getfield 113, 79, 10, 8, 0), none, none, some (.iload_n 3, 80, 0, 0, 0)],
  [some (.iastore, 81, 0, 0, 0), some (.aload_n 0, 82, 0, 0, 0), some (.dup, 83, 0, 0, 0), some (.getfield 113, 86, 10, 8, 0), none, none, some (.iconst 1, 87, 0, 0, 0), some (.iadd, 88, 0, 0, 0), some (.putfield 113, 91, 10, 8, 0), none, none, some (.iconst 1, 92, 0, 0, 0), some (.ireturn, 93, 0, 1, 0)]]
def T_X10_reads : am_T := [[some (.aload_n 0, 1, 0, 0, 0), some (.iconst 0, 2, 0, 0, 0), some (.putfield 110, 5, 10, 7, 0), none, none, some (.aload_n 0, 6, 0, 0, 0), some (.iconst 0, 7, 0, 0, 0), some (.putfield 113, 10, 10, 8, 0), none, none, some (.aload_n 0, 11, 0, 0, 0), some (.getfield 107, 14, 10, 6, 0), none, none, some (.ifCond .le 7, 17, 21, 0, 0), none],
  [none, some (.iconst 1, 18, 0, 0, 0), some (.goto 4, 21, 22, 0, 0), none, none, some (.iconst 0, 22, 0, 0, 0), some (.istore_n 1, 23, 0, 0, 0), some (.iload_n 1, 24, 0, 0, 0), some (.ifCond .eq 71, 27, 95, 0, 0), none, none, some (.aload_n 0, 28, 0, 0, 0), some (.invokevirtual 123, 31, 128, 1, 0), none, none, some (.ifCond .ne 8, 34, 39, 0, 0)],
  [none, none, some (.aload_n 0, 35, 0, 0, 0), some (.invokevirtual 127, 38, 126, 1, 0), none, none, some (.ireturn, 39, 0, 0, 0), some (.aload_n 0, 40, 0, 0, 0), some (.getfield 110, 43, 10, 7, 0), none, none, some (.aload_n 0, 44, 0, 0, 0), some (.getfield 107, 47, 10, 6, 0), none, none, some (.if_icmp .ge 7, 50, 54, 0, 0)],
  [none, none, some (.iconst 1, 51, 0, 0, 0), some (.goto 4, 54, 55, 0, 0), none, none, some (.iconst 0, 55, 0, 0, 0), some (.istore_n 1, 56, 0, 0, 0), some (.iload_n 1, 57, 0, 0, 0), some (.ifCond .eq 17, 60, 74, 0, 0), none, none, some (.aload_n 0, 61, 0, 0, 0), some (.invokevirtual 116, 64, 125, 1, 0), none, none],
  [some (.bipush 59, 66, 0, 0, 0), none, some (.if_icmp .eq 8, 69, 74, 0, 0), none, none, some (.aload_n 0, 70, 0, 0, 0), some (.invokevirtual 127, 73, 126, 1, 0), none, none, some (.ireturn, 74, 0, 0, 0), some (.aload_n 0, 75, 0, 0, 0), some (.dup, 76, 0, 0, 0), some (.getfield 110, 79, 10, 7, 0), none, none, some (.iload_n 1, 80, 0, 0, 0)],
  [some (.ifCond .eq 7, 83, 87, 0, 0), none, none, some (.iconst 1, 84, 0, 0, 0), some (.goto 4, 87, 88, 0, 0), none, none, some (.iconst 0, 88, 0, 0, 0), some (.iadd, 89, 0, 0, 0), some (.putfield 110, 92, 10, 7, 0), none, none, some (.goto (-69), 95, 23, 0, 0), none, none, some (.iconst (-1), 96, 0, 0, 0)],
  [some (.ireturn, 97, 0, 0, 0)]]
def T_X10_fault : am_T := [[some (.aload_n 0, 1, 0, 0, 0), some (.invokevirtual 130, 4, 129, 1, 0), none, none, some (.ireturn, 5, 0, 0, 0)]]
def T_X10_isPerson : am_T := [[some (.aload_n 0, 1, 0, 0, 0), some (.invokevirtual 130, 4, 129, 1, 0), none, none, some (.pop, 5, 0, 0, 0), some (.iload_n 1, 6, 0, 0, 0), some (.i2l, 7, 0, 0, 0), some (.lconst 0, 8, 0, 0, 0), some (.aload_n 0, 9, 0, 0, 0), some (.getfield 113, 12, 10, 8, 0), none, none, some (.iconst 1, 13, 0, 0, 0), some (.isub, 14, 0, 0, 0), some (.i2l, 15, 0, 0, 0), some (.invokestatic 74, 18, 109, 3, 0)],
  [none, none, some (.ireturn, 19, 0, 1, 0)]]
def T_X10_least : am_T := [[some (.iload_n 0, 1, 0, 0, 0), some (.iload_n 1, 2, 0, 0, 0), some (.if_icmp .ge 7, 5, 9, 0, 0), none, none, some (.iload_n 0, 6, 0, 0, 0), some (.goto 4, 9, 10, 0, 0), none, none, some (.iload_n 1, 10, 0, 0, 0), some (.ireturn, 11, 0, 0, 0)]]
def T_X10_goesIn : am_T := [[some (.bipush 59, 2, 0, 0, 0), none, some (.aload_n 0, 3, 0, 0, 0), some (.getfield 25, 6, 10, 9, 0), none, none, some (.iload_n 1, 7, 0, 0, 0), some (.iaload, 8, 0, 0, 0), some (.aload_n 0, 9, 0, 0, 0), some (.getfield 31, 12, 10, 11, 0), none, none, some (.iload_n 1, 13, 0, 0, 0), some (.iaload, 14, 0, 0, 0), some (.iadd, 15, 0, 0, 0), some (.invokestatic 133, 18, 132, 2, 0)],
  [none, none, some (.ireturn, 19, 0, 0, 0)]]
def T_X10_wet : am_T := [[some (.iconst 0, 1, 0, 0, 0), some (.istore_n 2, 2, 0, 0, 0), some (.aload_n 0, 3, 0, 0, 0), some (.getfield 25, 6, 10, 9, 0), none, none, some (.iload_n 1, 7, 0, 0, 0), some (.iaload, 8, 0, 0, 0), some (.istore_n 3, 9, 0, 0, 0), some (.iload_n 3, 10, 0, 0, 0), some (.aload_n 0, 11, 0, 0, 0), some (.iload_n 1, 12, 0, 0, 0), some (.invokevirtual 136, 15, 133, 2, 0), none, none, some (.if_icmp .ge 18, 18, 33, 0, 0)],
  [none, none, some (.iload_n 2, 19, 0, 0, 0), some (.aload_n 0, 20, 0, 0, 0), some (.getfield 34, 23, 10, 12, 0), none, none, some (.iload_n 3, 24, 0, 0, 0), some (.iaload, 25, 0, 0, 0), some (.iadd, 26, 0, 0, 0), some (.istore_n 2, 27, 0, 0, 0), some (.iinc 3 1, 30, 0, 0, 0), none, none, some (.goto (-21), 33, 9, 0, 0), none],
  [none, some (.iload_n 2, 34, 0, 0, 0), some (.ireturn, 35, 0, 0, 0)]]
def T_X10_personOf : am_T := [[some (.iload_n 2, 1, 0, 0, 0), some (.ifCond .ne 12, 4, 13, 0, 0), none, none, some (.aload_n 0, 5, 0, 0, 0), some (.getfield 25, 8, 10, 9, 0), none, none, some (.iload_n 1, 9, 0, 0, 0), some (.iaload, 10, 0, 0, 0), some (.goto 35, 13, 45, 0, 0), none, none, some (.iload_n 2, 14, 0, 0, 0), some (.iconst 1, 15, 0, 0, 0), some (.if_icmp .ne 12, 18, 27, 0, 0)],
  [none, none, some (.aload_n 0, 19, 0, 0, 0), some (.getfield 28, 22, 10, 10, 0), none, none, some (.iload_n 1, 23, 0, 0, 0), some (.iaload, 24, 0, 0, 0), some (.goto 21, 27, 45, 0, 0), none, none, some (.iload_n 2, 28, 0, 0, 0), some (.iconst 2, 29, 0, 0, 0), some (.if_icmp .ne 11, 32, 40, 0, 0), none, none],
  [some (.aload_n 0, 33, 0, 0, 0), some (.iload_n 1, 34, 0, 0, 0), some (.invokevirtual 136, 37, 133, 2, 0), none, none, some (.goto 8, 40, 45, 0, 0), none, none, some (.aload_n 0, 41, 0, 0, 0), some (.iload_n 1, 42, 0, 0, 0), some (.invokevirtual 139, 45, 134, 2, 0), none, none, some (.ireturn, 46, 0, 0, 0)]]
def T_X10_person : am_T := [[some (.aload_n 0, 1, 0, 0, 0), some (.iload_n 1, 2, 0, 0, 0), some (.invokevirtual 142, 5, 131, 2, 0), none, none, some (.ifCond .eq 24, 8, 29, 0, 0), none, none, some (.iload_n 2, 9, 0, 0, 0), some (.i2l, 10, 0, 0, 0), some (.lconst 0, 11, 0, 0, 0), some (.ldc2_w 84, 14, 0, 0, 3), none, none, some (.invokestatic 74, 17, 109, 3, 0), none],
  [none, some (.ifCond .eq 12, 20, 29, 0, 0), none, none, some (.aload_n 0, 21, 0, 0, 0), some (.iload_n 1, 22, 0, 0, 0), some (.iload_n 2, 23, 0, 0, 0), some (.invokevirtual 145, 26, 135, 3, 0), none, none, some (.goto 5, 29, 31, 0, 0), none, none, some (.bipush (-2), 31, 0, 0, 0), none, some (.ireturn, 32, 0, 0, 0)]]
def T_X10_waits : am_T := [[some (.iload_n 1, 1, 0, 0, 0), some (.invokestatic 148, 4, 112, 1, 0), none, none, some (.ifCond .eq 15, 7, 19, 0, 0), none, none, some (.iload_n 2, 8, 0, 0, 0), some (.i2l, 9, 0, 0, 0), some (.lconst 0, 10, 0, 0, 0), some (.ldc2_w 151, 13, 0, 0, 59), none, none, some (.invokestatic 74, 16, 109, 3, 0), none, none],
  [some (.ifCond .ne 6, 19, 22, 0, 0), none, none, some (.bipush (-2), 21, 0, 0, 0), none, some (.ireturn, 22, 0, 0, 0), some (.aload_n 0, 23, 0, 0, 0), some (.getfield 31, 26, 10, 11, 0), none, none, some (.iload_n 1, 27, 0, 0, 0), some (.iaload, 28, 0, 0, 0), some (.istore_n 3, 29, 0, 0, 0), some (.aload_n 0, 30, 0, 0, 0), some (.getfield 31, 33, 10, 11, 0), none],
  [none, some (.iload_n 1, 34, 0, 0, 0), some (.iload_n 2, 35, 0, 0, 0), some (.iastore, 36, 0, 0, 0), some (.iload_n 3, 37, 0, 0, 0), some (.ireturn, 38, 0, 0, 0)]]
def T_X10_rain : am_T := [[some (.iload_n 1, 1, 0, 0, 0), some (.i2l, 2, 0, 0, 0), some (.lconst 0, 3, 0, 0, 0), some (.ldc2_w 151, 6, 0, 0, 59), none, none, some (.invokestatic 74, 9, 109, 3, 0), none, none, some (.ifCond .eq 10, 12, 19, 0, 0), none, none, some (.iload_n 2, 13, 0, 0, 0), some (.invokestatic 153, 16, 111, 1, 0), none, none],
  [some (.ifCond .ne 6, 19, 22, 0, 0), none, none, some (.bipush (-2), 21, 0, 0, 0), none, some (.ireturn, 22, 0, 0, 0), some (.aload_n 0, 23, 0, 0, 0), some (.getfield 34, 26, 10, 12, 0), none, none, some (.iload_n 1, 27, 0, 0, 0), some (.iaload, 28, 0, 0, 0), some (.istore_n 3, 29, 0, 0, 0), some (.aload_n 0, 30, 0, 0, 0), some (.getfield 34, 33, 10, 12, 0), none],
  [none, some (.iload_n 1, 34, 0, 0, 0), some (.iload_n 2, 35, 0, 0, 0), some (.iastore, 36, 0, 0, 0), some (.iload_n 3, 37, 0, 0, 0), some (.ireturn, 38, 0, 0, 0)]]
def T_X10_lowOf : am_T := [[some (.iload_n 0, 1, 0, 0, 0), some (.iconst 2, 2, 0, 0, 0), some (.if_icmp .eq 8, 5, 10, 0, 0), none, none, some (.iload_n 0, 6, 0, 0, 0), some (.iconst 5, 7, 0, 0, 0), some (.if_icmp .ne 7, 10, 14, 0, 0), none, none, some (.iconst 1, 11, 0, 0, 0), some (.goto 4, 14, 15, 0, 0), none, none, some (.iconst 0, 15, 0, 0, 0), some (.ireturn, 16, 0, 0, 0)]]
def T_X10_highOf : am_T := [[some (.iload_n 0, 1, 0, 0, 0), some (.ifCond .ne 8, 4, 9, 0, 0), none, none, some (.bipush 60, 6, 0, 0, 0), none, some (.goto 33, 9, 39, 0, 0), none, none, some (.iload_n 0, 10, 0, 0, 0), some (.iconst 1, 11, 0, 0, 0), some (.if_icmp .ne 7, 14, 18, 0, 0), none, none, some (.iconst 1, 15, 0, 0, 0), some (.goto 24, 18, 39, 0, 0)],
  [none, none, some (.iload_n 0, 19, 0, 0, 0), some (.iconst 2, 20, 0, 0, 0), some (.if_icmp .ne 7, 23, 27, 0, 0), none, none, some (.iconst 4, 24, 0, 0, 0), some (.goto 15, 27, 39, 0, 0), none, none, some (.iload_n 0, 28, 0, 0, 0), some (.iconst 5, 29, 0, 0, 0), some (.if_icmp .ne 8, 32, 37, 0, 0), none, none],
  [some (.bipush 15, 34, 0, 0, 0), none, some (.goto 5, 37, 39, 0, 0), none, none, some (.bipush 9, 39, 0, 0, 0), none, some (.ireturn, 40, 0, 0, 0)]]
def T_X10_set : am_T := [[some (.iload_n 1, 1, 0, 0, 0), some (.i2l, 2, 0, 0, 0), some (.lconst 0, 3, 0, 0, 0), some (.ldc2_w 156, 6, 0, 0, 5), none, none, some (.invokestatic 74, 9, 109, 3, 0), none, none, some (.ifCond .eq 21, 12, 30, 0, 0), none, none, some (.iload_n 2, 13, 0, 0, 0), some (.i2l, 14, 0, 0, 0), some (.iload_n 1, 15, 0, 0, 0), some (.invokestatic 158, 18, 139, 1, 0)],
  [none, none, some (.i2l, 19, 0, 0, 0), some (.iload_n 1, 20, 0, 0, 0), some (.invokestatic 161, 23, 140, 1, 0), none, none, some (.i2l, 24, 0, 0, 0), some (.invokestatic 74, 27, 109, 3, 0), none, none, some (.ifCond .ne 6, 30, 33, 0, 0), none, none, some (.bipush (-2), 32, 0, 0, 0), none],
  [some (.ireturn, 33, 0, 0, 0), some (.aload_n 0, 34, 0, 0, 0), some (.getfield 37, 37, 10, 13, 0), none, none, some (.iload_n 1, 38, 0, 0, 0), some (.iaload, 39, 0, 0, 0), some (.istore_n 3, 40, 0, 0, 0), some (.aload_n 0, 41, 0, 0, 0), some (.getfield 37, 44, 10, 13, 0), none, none, some (.iload_n 1, 45, 0, 0, 0), some (.iload_n 2, 46, 0, 0, 0), some (.iastore, 47, 0, 0, 0), some (.iload_n 3, 48, 0, 0, 0)],
  [some (.ireturn, 49, 0, 0, 0)]]
def T_X10_love : am_T := [[some (.iload_n 1, 1, 0, 0, 0), some (.invokestatic 148, 4, 112, 1, 0), none, none, some (.ifCond .eq 27, 7, 31, 0, 0), none, none, some (.iload_n 2, 8, 0, 0, 0), some (.invokestatic 148, 11, 112, 1, 0), none, none, some (.ifCond .eq 20, 14, 31, 0, 0), none, none, some (.iload_n 1, 15, 0, 0, 0), some (.iload_n 2, 16, 0, 0, 0)],
  [some (.if_icmp .eq 15, 19, 31, 0, 0), none, none, some (.iload_n 3, 20, 0, 0, 0), some (.i2l, 21, 0, 0, 0), some (.lconst 0, 22, 0, 0, 0), some (.ldc2_w 164, 25, 0, 0, 20), none, none, some (.invokestatic 74, 28, 109, 3, 0), none, none, some (.ifCond .ne 6, 31, 34, 0, 0), none, none, some (.bipush (-2), 33, 0, 0, 0)],
  [none, some (.ireturn, 34, 0, 0, 0), some (.aload_n 0, 35, 0, 0, 0), some (.getfield 40, 38, 10, 14, 0), none, none, some (.bipush 7, 40, 0, 0, 0), none, some (.iload_n 1, 41, 0, 0, 0), some (.imul, 42, 0, 0, 0), some (.iload_n 2, 43, 0, 0, 0), some (.iadd, 44, 0, 0, 0), some (.iaload, 45, 0, 0, 0), some (.istore 4, 47, 0, 0, 0), none, some (.aload_n 0, 48, 0, 0, 0)],
  [some (.getfield 40, 51, 10, 14, 0), none, none, some (.bipush 7, 53, 0, 0, 0), none, some (.iload_n 1, 54, 0, 0, 0), some (.imul, 55, 0, 0, 0), some (.iload_n 2, 56, 0, 0, 0), some (.iadd, 57, 0, 0, 0), some (.iload_n 3, 58, 0, 0, 0), some (.iastore, 59, 0, 0, 0), some (.aload_n 0, 60, 0, 0, 0), some (.getfield 40, 63, 10, 14, 0), none, none, some (.bipush 7, 65, 0, 0, 0)],
  [none, some (.iload_n 2, 66, 0, 0, 0), some (.imul, 67, 0, 0, 0), some (.iload_n 1, 68, 0, 0, 0), some (.iadd, 69, 0, 0, 0), some (.iload_n 3, 70, 0, 0, 0), some (.iastore, 71, 0, 0, 0), some (.iload 4, 73, 0, 0, 0), none, some (.ireturn, 74, 0, 0, 0)]]
def T_X10_read : am_T := [[some (.iload_n 1, 1, 0, 0, 0), some (.invokestatic 86, 4, 115, 1, 0), none, none, some (.ifCond .ne 6, 7, 10, 0, 0), none, none, some (.bipush (-2), 9, 0, 0, 0), none, some (.ireturn, 10, 0, 0, 0), some (.aload_n 0, 11, 0, 0, 0), some (.getfield 7, 14, 10, 0, 0), none, none, some (.iload_n 1, 15, 0, 0, 0), some (.iaload, 16, 0, 0, 0)],
  [some (.ifCond .ge 9, 19, 25, 0, 0), none, none, some (.aload_n 0, 20, 0, 0, 0), some (.iconst 1, 21, 0, 0, 0), some (.invokevirtual 92, 24, 114, 2, 0), none, none, some (.ireturn, 25, 0, 0, 0), some (.iconst 0, 26, 0, 0, 0), some (.istore_n 2, 27, 0, 0, 0), some (.iload_n 2, 28, 0, 0, 0), some (.aload_n 0, 29, 0, 0, 0), some (.getfield 13, 32, 10, 1, 0), none, none],
  [some (.iload_n 1, 33, 0, 0, 0), some (.iaload, 34, 0, 0, 0), some (.if_icmp .ge 28, 37, 62, 0, 0), none, none, some (.aload_n 0, 38, 0, 0, 0), some (.iload_n 2, 39, 0, 0, 0), some (.aload_n 0, 40, 0, 0, 0), some (.getfield 16, 43, 10, 2, 0), none, none, some (.bipush 60, 45, 0, 0, 0), none, some (.iload_n 1, 46, 0, 0, 0), some (.imul, 47, 0, 0, 0), some (.iload_n 2, 48, 0, 0, 0)],
  [some (.iadd, 49, 0, 0, 0), some (.iaload, 50, 0, 0, 0), some (.invokevirtual 166, 53, 137, 3, 0), none, none, some (.ifCond .lt 9, 56, 62, 0, 0), none, none, some (.iinc 2 1, 59, 0, 0, 0), none, none, some (.goto (-32), 62, 27, 0, 0), none, none, some (.iload_n 2, 63, 0, 0, 0), some (.ireturn, 64, 0, 0, 0)]]
def T_X10_isOutside : am_T := [[some (.aload_n 0, 1, 0, 0, 0), some (.iload_n 1, 2, 0, 0, 0), some (.invokevirtual 136, 5, 133, 2, 0), none, none, some (.aload_n 0, 6, 0, 0, 0), some (.getfield 37, 9, 10, 13, 0), none, none, some (.iconst 0, 10, 0, 0, 0), some (.iaload, 11, 0, 0, 0), some (.if_icmp .lt 7, 14, 18, 0, 0), none, none, some (.iconst 1, 15, 0, 0, 0), some (.goto 4, 18, 19, 0, 0)],
  [none, none, some (.iconst 0, 19, 0, 0, 0), some (.ireturn, 20, 0, 1, 0)]]
def T_X10_findSeats : am_T := [[some (.iconst 0, 1, 0, 0, 0), some (.istore_n 3, 2, 0, 0, 0), some (.iload_n 3, 3, 0, 0, 0), some (.aload_n 0, 4, 0, 0, 0), some (.getfield 113, 7, 10, 8, 0), none, none, some (.if_icmp .ge 165, 10, 172, 0, 0), none, none, some (.iload_n 1, 11, 0, 0, 0), some (.iload_n 3, 12, 0, 0, 0), some (.invokestatic 169, 15, 113, 2, 0), none, none, some (.ifCond .eq 151, 18, 166, 0, 0)],
  [none, none, some (.iconst 0, 19, 0, 0, 0), some (.istore 4, 21, 0, 0, 0), none, some (.iconst 0, 22, 0, 0, 0), some (.istore 5, 24, 0, 0, 0), none, some (.iconst 0, 25, 0, 0, 0), some (.istore 6, 27, 0, 0, 0), none, some (.iload 6, 29, 0, 0, 0), none, some (.aload_n 0, 30, 0, 0, 0), some (.getfield 113, 33, 10, 8, 0), none],
  [none, some (.if_icmp .ge 104, 36, 137, 0, 0), none, none, some (.iload 6, 38, 0, 0, 0), none, some (.iload_n 3, 39, 0, 0, 0), some (.if_icmp .eq 92, 42, 131, 0, 0), none, none, some (.iload_n 1, 43, 0, 0, 0), some (.iload 6, 45, 0, 0, 0), none, some (.invokestatic 169, 48, 113, 2, 0), none, none],
  [some (.ifCond .eq 83, 51, 131, 0, 0), none, none, some (.aload_n 0, 52, 0, 0, 0), some (.iload 6, 54, 0, 0, 0), none, some (.invokevirtual 173, 57, 144, 2, 0), none, none, some (.ifCond .ne 74, 60, 131, 0, 0), none, none, some (.aload_n 0, 61, 0, 0, 0), some (.iload 6, 63, 0, 0, 0), none, some (.invokevirtual 136, 66, 133, 2, 0)],
  [none, none, some (.aload_n 0, 67, 0, 0, 0), some (.iload_n 3, 68, 0, 0, 0), some (.invokevirtual 136, 71, 133, 2, 0), none, none, some (.if_icmp .lt 23, 74, 94, 0, 0), none, none, some (.aload_n 0, 75, 0, 0, 0), some (.iload 6, 77, 0, 0, 0), none, some (.invokevirtual 136, 80, 133, 2, 0), none, none],
  [some (.aload_n 0, 81, 0, 0, 0), some (.iload_n 3, 82, 0, 0, 0), some (.invokevirtual 136, 85, 133, 2, 0), none, none, some (.if_icmp .ne 13, 88, 98, 0, 0), none, none, some (.iload 6, 90, 0, 0, 0), none, some (.iload_n 3, 91, 0, 0, 0), some (.if_icmp .ge 7, 94, 98, 0, 0), none, none, some (.iconst 1, 95, 0, 0, 0), some (.goto 4, 98, 99, 0, 0)],
  [none, none, some (.iconst 0, 99, 0, 0, 0), some (.istore 7, 101, 0, 0, 0), none, some (.iload 4, 103, 0, 0, 0), none, some (.iload 7, 105, 0, 0, 0), none, some (.ifCond .eq 7, 108, 112, 0, 0), none, none, some (.iconst 1, 109, 0, 0, 0), some (.goto 4, 112, 113, 0, 0), none, none],
  [some (.iconst 0, 113, 0, 0, 0), some (.iadd, 114, 0, 0, 0), some (.istore 4, 116, 0, 0, 0), none, some (.iload 5, 118, 0, 0, 0), none, some (.iload 7, 120, 0, 0, 0), none, some (.ifCond .eq 7, 123, 127, 0, 0), none, none, some (.iconst 0, 124, 0, 0, 0), some (.goto 4, 127, 128, 0, 0), none, none, some (.iconst 1, 128, 0, 0, 0)],
  [some (.iadd, 129, 0, 0, 0), some (.istore 5, 131, 0, 0, 0), none, some (.iinc 6 1, 134, 0, 0, 0), none, none, some (.goto (-107), 137, 27, 0, 0), none, none, some (.aload_n 0, 138, 0, 0, 0), some (.getfield 43, 141, 10, 15, 0), none, none, some (.iload_n 3, 142, 0, 0, 0), some (.aload_n 0, 143, 0, 0, 0), some (.iload_n 3, 144, 0, 0, 0)],
  [some (.invokevirtual 173, 147, 144, 2, 0), none, none, some (.ifCond .eq 7, 150, 154, 0, 0), none, none, some (.iconst (-1), 151, 0, 0, 0), some (.goto 14, 154, 165, 0, 0), none, none, some (.iload_n 2, 155, 0, 0, 0), some (.ifCond .ne 8, 158, 163, 0, 0), none, none, some (.iload 4, 160, 0, 0, 0), none],
  [some (.goto 5, 163, 165, 0, 0), none, none, some (.iload 5, 165, 0, 0, 0), none, some (.iastore, 166, 0, 0, 0), some (.iinc 3 1, 169, 0, 0, 0), none, none, some (.goto (-167), 172, 2, 0, 0), none, none, some (.return_, 173, 0, 0, 0)]]
def T_X10_whole : am_T := [[some (.iconst 1, 1, 0, 0, 0), some (.aload_n 0, 2, 0, 0, 0), some (.getfield 113, 5, 10, 8, 0), none, none, some (.ishl, 6, 0, 0, 0), some (.iconst 1, 7, 0, 0, 0), some (.isub, 8, 0, 0, 0), some (.ireturn, 9, 0, 0, 0)]]
def T_X10_findAll : am_T := [[some (.aload_n 0, 1, 0, 0, 0), some (.aload_n 0, 2, 0, 0, 0), some (.invokevirtual 176, 5, 146, 1, 0), none, none, some (.aload_n 0, 6, 0, 0, 0), some (.getfield 37, 9, 10, 13, 0), none, none, some (.iconst 1, 10, 0, 0, 0), some (.iaload, 11, 0, 0, 0), some (.invokevirtual 179, 14, 145, 3, 0), none, none, some (.return_, 15, 0, 0, 0)]]
def T_X10_amount : am_T := [[some (.iload_n 0, 1, 0, 0, 0), some (.ifCond .ge 8, 4, 9, 0, 0), none, none, some (.iload_n 0, 5, 0, 0, 0), some (.ineg, 6, 0, 0, 0), some (.goto 4, 9, 10, 0, 0), none, none, some (.iload_n 0, 10, 0, 0, 0), some (.ireturn, 11, 0, 0, 0)]]
def T_X10_worth : am_T := [[some (.aload_n 0, 1, 0, 0, 0), some (.getfield 43, 4, 10, 15, 0), none, none, some (.iload_n 1, 5, 0, 0, 0), some (.iaload, 6, 0, 0, 0), some (.iconst (-1), 7, 0, 0, 0), some (.if_icmp .ne 5, 10, 12, 0, 0), none, none, some (.iconst 0, 11, 0, 0, 0), some (.ireturn, 12, 0, 0, 0), some (.bipush 20, 14, 0, 0, 0), none, some (.aload_n 0, 15, 0, 0, 0), some (.getfield 37, 18, 10, 13, 0)],
  [none, none, some (.iconst 3, 19, 0, 0, 0), some (.iaload, 20, 0, 0, 0), some (.aload_n 0, 21, 0, 0, 0), some (.getfield 43, 24, 10, 15, 0), none, none, some (.iload_n 1, 25, 0, 0, 0), some (.iaload, 26, 0, 0, 0), some (.aload_n 0, 27, 0, 0, 0), some (.getfield 28, 30, 10, 10, 0), none, none, some (.iload_n 1, 31, 0, 0, 0), some (.iaload, 32, 0, 0, 0)],
  [some (.isub, 33, 0, 0, 0), some (.invokestatic 183, 36, 148, 1, 0), none, none, some (.imul, 37, 0, 0, 0), some (.isub, 38, 0, 0, 0), some (.istore_n 3, 39, 0, 0, 0), some (.iconst 0, 40, 0, 0, 0), some (.istore 4, 42, 0, 0, 0), none, some (.iload 4, 44, 0, 0, 0), none, some (.aload_n 0, 45, 0, 0, 0), some (.getfield 113, 48, 10, 8, 0), none, none],
  [some (.if_icmp .ge 96, 51, 144, 0, 0), none, none, some (.iload 4, 53, 0, 0, 0), none, some (.iload_n 1, 54, 0, 0, 0), some (.if_icmp .eq 57, 57, 111, 0, 0), none, none, some (.iload_n 2, 58, 0, 0, 0), some (.iload 4, 60, 0, 0, 0), none, some (.invokestatic 169, 63, 113, 2, 0), none, none, some (.ifCond .eq 48, 66, 111, 0, 0)],
  [none, none, some (.aload_n 0, 67, 0, 0, 0), some (.getfield 43, 70, 10, 15, 0), none, none, some (.iload 4, 72, 0, 0, 0), none, some (.iaload, 73, 0, 0, 0), some (.iconst (-1), 74, 0, 0, 0), some (.if_icmp .eq 37, 77, 111, 0, 0), none, none, some (.aload_n 0, 78, 0, 0, 0), some (.getfield 43, 81, 10, 15, 0), none],
  [none, some (.iload 4, 83, 0, 0, 0), none, some (.iaload, 84, 0, 0, 0), some (.aload_n 0, 85, 0, 0, 0), some (.getfield 37, 88, 10, 13, 0), none, none, some (.iconst 2, 89, 0, 0, 0), some (.iaload, 90, 0, 0, 0), some (.idiv, 91, 0, 0, 0), some (.aload_n 0, 92, 0, 0, 0), some (.getfield 43, 95, 10, 15, 0), none, none, some (.iload_n 1, 96, 0, 0, 0)],
  [some (.iaload, 97, 0, 0, 0), some (.aload_n 0, 98, 0, 0, 0), some (.getfield 37, 101, 10, 13, 0), none, none, some (.iconst 2, 102, 0, 0, 0), some (.iaload, 103, 0, 0, 0), some (.idiv, 104, 0, 0, 0), some (.if_icmp .ne 7, 107, 111, 0, 0), none, none, some (.iconst 1, 108, 0, 0, 0), some (.goto 4, 111, 112, 0, 0), none, none, some (.iconst 0, 112, 0, 0, 0)],
  [some (.istore 5, 114, 0, 0, 0), none, some (.iload_n 3, 115, 0, 0, 0), some (.iload 5, 117, 0, 0, 0), none, some (.ifCond .eq 18, 120, 135, 0, 0), none, none, some (.aload_n 0, 121, 0, 0, 0), some (.getfield 40, 124, 10, 14, 0), none, none, some (.bipush 7, 126, 0, 0, 0), none, some (.iload_n 1, 127, 0, 0, 0), some (.imul, 128, 0, 0, 0)],
  [some (.iload 4, 130, 0, 0, 0), none, some (.iadd, 131, 0, 0, 0), some (.iaload, 132, 0, 0, 0), some (.goto 4, 135, 136, 0, 0), none, none, some (.iconst 0, 136, 0, 0, 0), some (.iadd, 137, 0, 0, 0), some (.istore_n 3, 138, 0, 0, 0), some (.iinc 4 1, 141, 0, 0, 0), none, none, some (.goto (-99), 144, 42, 0, 0), none, none],
  [some (.iload_n 3, 145, 0, 0, 0), some (.ireturn, 146, 0, 0, 0)]]
def T_X10_hasNow : am_T := [[some (.aload_n 0, 1, 0, 0, 0), some (.iload_n 1, 2, 0, 0, 0), some (.iload_n 2, 3, 0, 0, 0), some (.invokevirtual 186, 6, 149, 3, 0), none, none, some (.aload_n 0, 7, 0, 0, 0), some (.getfield 37, 10, 10, 13, 0), none, none, some (.iconst 4, 11, 0, 0, 0), some (.iaload, 12, 0, 0, 0), some (.aload_n 0, 13, 0, 0, 0), some (.iload_n 1, 14, 0, 0, 0), some (.invokevirtual 139, 17, 134, 2, 0), none],
  [none, some (.imul, 18, 0, 0, 0), some (.isub, 19, 0, 0, 0), some (.ireturn, 20, 0, 0, 0)]]
def T_X10_seat : am_T := [[some (.aload_n 0, 1, 0, 0, 0), some (.iload_n 1, 2, 0, 0, 0), some (.invokevirtual 142, 5, 131, 2, 0), none, none, some (.ifCond .ne 6, 8, 11, 0, 0), none, none, some (.bipush (-2), 10, 0, 0, 0), none, some (.ireturn, 11, 0, 0, 0), some (.aload_n 0, 12, 0, 0, 0), some (.invokevirtual 189, 15, 147, 1, 0), none, none, some (.aload_n 0, 16, 0, 0, 0)],
  [some (.getfield 43, 19, 10, 15, 0), none, none, some (.iload_n 1, 20, 0, 0, 0), some (.iaload, 21, 0, 0, 0), some (.ireturn, 22, 0, 0, 0)]]
def T_X10_whoOf : am_T := [[some (.aload_n 0, 1, 0, 0, 0), some (.invokevirtual 189, 4, 147, 1, 0), none, none, some (.iconst 0, 5, 0, 0, 0), some (.istore_n 2, 6, 0, 0, 0), some (.iload_n 2, 7, 0, 0, 0), some (.aload_n 0, 8, 0, 0, 0), some (.getfield 113, 11, 10, 8, 0), none, none, some (.if_icmp .ge 21, 14, 32, 0, 0), none, none, some (.aload_n 0, 15, 0, 0, 0), some (.getfield 43, 18, 10, 15, 0)],
  [none, none, some (.iload_n 2, 19, 0, 0, 0), some (.iaload, 20, 0, 0, 0), some (.iload_n 1, 21, 0, 0, 0), some (.if_icmp .ne 5, 24, 26, 0, 0), none, none, some (.iload_n 2, 25, 0, 0, 0), some (.ireturn, 26, 0, 0, 0), some (.iinc 2 1, 29, 0, 0, 0), none, none, some (.goto (-23), 32, 6, 0, 0), none, none],
  [some (.iconst (-1), 33, 0, 0, 0), some (.ireturn, 34, 0, 0, 0)]]
def T_X10_who : am_T := [[some (.aload_n 0, 1, 0, 0, 0), some (.invokevirtual 130, 4, 129, 1, 0), none, none, some (.pop, 5, 0, 0, 0), some (.iload_n 1, 6, 0, 0, 0), some (.invokestatic 148, 9, 112, 1, 0), none, none, some (.ifCond .eq 11, 12, 20, 0, 0), none, none, some (.aload_n 0, 13, 0, 0, 0), some (.iload_n 1, 14, 0, 0, 0), some (.invokevirtual 192, 17, 152, 2, 0), none],
  [none, some (.goto 5, 20, 22, 0, 0), none, none, some (.bipush (-2), 22, 0, 0, 0), none, some (.ireturn, 23, 0, 0, 0)]]
def T_X10_hasOf : am_T := [[some (.aload_n 0, 1, 0, 0, 0), some (.invokevirtual 189, 4, 147, 1, 0), none, none, some (.aload_n 0, 5, 0, 0, 0), some (.iload_n 1, 6, 0, 0, 0), some (.aload_n 0, 7, 0, 0, 0), some (.invokevirtual 176, 10, 146, 1, 0), none, none, some (.invokevirtual 195, 13, 150, 3, 0), none, none, some (.ireturn, 14, 0, 0, 0)]]
def T_X10_has : am_T := [[some (.aload_n 0, 1, 0, 0, 0), some (.iload_n 1, 2, 0, 0, 0), some (.invokevirtual 142, 5, 131, 2, 0), none, none, some (.ifCond .eq 11, 8, 16, 0, 0), none, none, some (.aload_n 0, 9, 0, 0, 0), some (.iload_n 1, 10, 0, 0, 0), some (.invokevirtual 198, 13, 154, 2, 0), none, none, some (.goto 6, 16, 19, 0, 0), none, none],
  [some (.sipush (-10002), 19, 0, 0, 0), none, none, some (.ireturn, 20, 0, 0, 0)]]
def T_X10_bestOf : am_T := [[some (.aload_n 0, 1, 0, 0, 0), some (.getfield 31, 4, 10, 11, 0), none, none, some (.iload_n 1, 5, 0, 0, 0), some (.iaload, 6, 0, 0, 0), some (.istore_n 3, 7, 0, 0, 0), some (.iconst 0, 8, 0, 0, 0), some (.istore 4, 10, 0, 0, 0), none, some (.iconst 0, 11, 0, 0, 0), some (.istore 5, 13, 0, 0, 0), none, some (.iconst 0, 14, 0, 0, 0), some (.istore 6, 16, 0, 0, 0), none],
  [some (.iload 6, 18, 0, 0, 0), none, some (.bipush 60, 20, 0, 0, 0), none, some (.if_icmp .ge 61, 23, 81, 0, 0), none, none, some (.aload_n 0, 24, 0, 0, 0), some (.getfield 31, 27, 10, 11, 0), none, none, some (.iload_n 1, 28, 0, 0, 0), some (.iload 6, 30, 0, 0, 0), none, some (.iastore, 31, 0, 0, 0), some (.aload_n 0, 32, 0, 0, 0)],
  [some (.iload_n 1, 33, 0, 0, 0), some (.invokevirtual 198, 36, 154, 2, 0), none, none, some (.istore 7, 38, 0, 0, 0), none, some (.iload 6, 40, 0, 0, 0), none, some (.ifCond .eq 10, 43, 50, 0, 0), none, none, some (.iload 7, 45, 0, 0, 0), none, some (.iload 5, 47, 0, 0, 0), none, some (.if_icmp .le 8, 50, 55, 0, 0)],
  [none, none, some (.iload 6, 52, 0, 0, 0), none, some (.goto 5, 55, 57, 0, 0), none, none, some (.iload 4, 57, 0, 0, 0), none, some (.istore 4, 59, 0, 0, 0), none, some (.iload 4, 61, 0, 0, 0), none, some (.iload 6, 63, 0, 0, 0), none, some (.if_icmp .ne 8, 66, 71, 0, 0)],
  [none, none, some (.iload 7, 68, 0, 0, 0), none, some (.goto 5, 71, 73, 0, 0), none, none, some (.iload 5, 73, 0, 0, 0), none, some (.istore 5, 75, 0, 0, 0), none, some (.iinc 6 1, 78, 0, 0, 0), none, none, some (.goto (-62), 81, 16, 0, 0), none],
  [none, some (.aload_n 0, 82, 0, 0, 0), some (.getfield 31, 85, 10, 11, 0), none, none, some (.iload_n 1, 86, 0, 0, 0), some (.iload_n 3, 87, 0, 0, 0), some (.iastore, 88, 0, 0, 0), some (.iload_n 2, 89, 0, 0, 0), some (.ifCond .ne 8, 92, 97, 0, 0), none, none, some (.iload 4, 94, 0, 0, 0), none, some (.goto 5, 97, 99, 0, 0), none],
  [none, some (.iload 5, 99, 0, 0, 0), none, some (.ireturn, 100, 0, 0, 0)]]
def T_X10_best : am_T := [[some (.aload_n 0, 1, 0, 0, 0), some (.iload_n 1, 2, 0, 0, 0), some (.invokevirtual 142, 5, 131, 2, 0), none, none, some (.ifCond .eq 19, 8, 24, 0, 0), none, none, some (.iload_n 2, 9, 0, 0, 0), some (.invokestatic 153, 12, 111, 1, 0), none, none, some (.ifCond .eq 12, 15, 24, 0, 0), none, none, some (.aload_n 0, 16, 0, 0, 0)],
  [some (.iload_n 1, 17, 0, 0, 0), some (.iload_n 2, 18, 0, 0, 0), some (.invokevirtual 201, 21, 156, 3, 0), none, none, some (.goto 6, 24, 27, 0, 0), none, none, some (.sipush (-10002), 27, 0, 0, 0), none, none, some (.ireturn, 28, 0, 0, 0)]]
def T_X10_rests : am_T := [[some (.iconst 0, 1, 0, 0, 0), some (.istore_n 1, 2, 0, 0, 0), some (.iload_n 1, 3, 0, 0, 0), some (.aload_n 0, 4, 0, 0, 0), some (.getfield 113, 7, 10, 8, 0), none, none, some (.if_icmp .ge 90, 10, 97, 0, 0), none, none, some (.aload_n 0, 11, 0, 0, 0), some (.getfield 31, 14, 10, 11, 0), none, none, some (.iload_n 1, 15, 0, 0, 0), some (.iaload, 16, 0, 0, 0)],
  [some (.istore_n 2, 17, 0, 0, 0), some (.aload_n 0, 18, 0, 0, 0), some (.iload_n 1, 19, 0, 0, 0), some (.invokevirtual 198, 22, 154, 2, 0), none, none, some (.istore_n 3, 23, 0, 0, 0), some (.iconst 0, 24, 0, 0, 0), some (.istore 4, 26, 0, 0, 0), none, some (.iconst 0, 27, 0, 0, 0), some (.istore 5, 29, 0, 0, 0), none, some (.iload 5, 31, 0, 0, 0), none, some (.iconst 4, 32, 0, 0, 0)],
  [some (.if_icmp .ge 45, 35, 77, 0, 0), none, none, some (.aload_n 0, 36, 0, 0, 0), some (.getfield 31, 39, 10, 11, 0), none, none, some (.iload_n 1, 40, 0, 0, 0), some (.iload 5, 42, 0, 0, 0), none, some (.aload_n 0, 43, 0, 0, 0), some (.getfield 37, 46, 10, 13, 0), none, none, some (.iconst 5, 47, 0, 0, 0), some (.iaload, 48, 0, 0, 0)],
  [some (.imul, 49, 0, 0, 0), some (.iastore, 50, 0, 0, 0), some (.iload 4, 52, 0, 0, 0), none, some (.ifCond .ne 12, 55, 64, 0, 0), none, none, some (.aload_n 0, 56, 0, 0, 0), some (.iload_n 1, 57, 0, 0, 0), some (.invokevirtual 198, 60, 154, 2, 0), none, none, some (.iload_n 3, 61, 0, 0, 0), some (.if_icmp .le 7, 64, 68, 0, 0), none, none],
  [some (.iconst 1, 65, 0, 0, 0), some (.goto 4, 68, 69, 0, 0), none, none, some (.iconst 0, 69, 0, 0, 0), some (.istore 4, 71, 0, 0, 0), none, some (.iinc 5 1, 74, 0, 0, 0), none, none, some (.goto (-45), 77, 29, 0, 0), none, none, some (.aload_n 0, 78, 0, 0, 0), some (.getfield 31, 81, 10, 11, 0), none],
  [none, some (.iload_n 1, 82, 0, 0, 0), some (.iload_n 2, 83, 0, 0, 0), some (.iastore, 84, 0, 0, 0), some (.iload 4, 86, 0, 0, 0), none, some (.ifCond .eq 5, 89, 91, 0, 0), none, none, some (.iconst 0, 90, 0, 0, 0), some (.ireturn, 91, 0, 1, 0), some (.iinc 1 1, 94, 0, 0, 0), none, none, some (.goto (-92), 97, 2, 0, 0), none],
  [none, some (.iconst 1, 98, 0, 0, 0), some (.ireturn, 99, 0, 1, 0)]]
def T_X10_findRest : am_T := [[some (.iconst 0, 1, 0, 0, 0), some (.istore_n 1, 2, 0, 0, 0), some (.iload_n 1, 3, 0, 0, 0), some (.bipush 7, 5, 0, 0, 0), none, some (.if_icmp .ge 21, 8, 26, 0, 0), none, none, some (.aload_n 0, 9, 0, 0, 0), some (.getfield 46, 12, 10, 16, 0), none, none, some (.iload_n 1, 13, 0, 0, 0), some (.aload_n 0, 14, 0, 0, 0), some (.getfield 31, 17, 10, 11, 0), none],
  [none, some (.iload_n 1, 18, 0, 0, 0), some (.iaload, 19, 0, 0, 0), some (.iastore, 20, 0, 0, 0), some (.iinc 1 1, 23, 0, 0, 0), none, none, some (.goto (-21), 26, 2, 0, 0), none, none, some (.aload_n 0, 27, 0, 0, 0), some (.iconst 0, 28, 0, 0, 0), some (.putfield 204, 31, 10, 17, 0), none, none, some (.aload_n 0, 32, 0, 0, 0)],
  [some (.iconst (-1), 33, 0, 0, 0), some (.putfield 207, 36, 10, 18, 0), none, none, some (.iconst 0, 37, 0, 0, 0), some (.istore_n 1, 38, 0, 0, 0), some (.iload_n 1, 39, 0, 0, 0), some (.iconst 1, 40, 0, 0, 0), some (.iconst 2, 41, 0, 0, 0), some (.aload_n 0, 42, 0, 0, 0), some (.getfield 113, 45, 10, 8, 0), none, none, some (.imul, 46, 0, 0, 0), some (.ishl, 47, 0, 0, 0), some (.if_icmp .ge 89, 50, 136, 0, 0)],
  [none, none, some (.iconst 0, 51, 0, 0, 0), some (.istore_n 2, 52, 0, 0, 0), some (.iload_n 2, 53, 0, 0, 0), some (.aload_n 0, 54, 0, 0, 0), some (.getfield 113, 57, 10, 8, 0), none, none, some (.if_icmp .ge 36, 60, 93, 0, 0), none, none, some (.aload_n 0, 61, 0, 0, 0), some (.getfield 31, 64, 10, 11, 0), none, none],
  [some (.iload_n 2, 65, 0, 0, 0), some (.iload_n 1, 66, 0, 0, 0), some (.iconst 2, 67, 0, 0, 0), some (.aload_n 0, 68, 0, 0, 0), some (.getfield 113, 71, 10, 8, 0), none, none, some (.iconst 1, 72, 0, 0, 0), some (.isub, 73, 0, 0, 0), some (.iload_n 2, 74, 0, 0, 0), some (.isub, 75, 0, 0, 0), some (.imul, 76, 0, 0, 0), some (.ishr, 77, 0, 0, 0), some (.iconst 3, 78, 0, 0, 0), some (.iand, 79, 0, 0, 0), some (.aload_n 0, 80, 0, 0, 0)],
  [some (.getfield 37, 83, 10, 13, 0), none, none, some (.iconst 5, 84, 0, 0, 0), some (.iaload, 85, 0, 0, 0), some (.imul, 86, 0, 0, 0), some (.iastore, 87, 0, 0, 0), some (.iinc 2 1, 90, 0, 0, 0), none, none, some (.goto (-38), 93, 52, 0, 0), none, none, some (.aload_n 0, 94, 0, 0, 0), some (.invokevirtual 210, 97, 158, 1, 0), none],
  [none, some (.ifCond .eq 33, 100, 130, 0, 0), none, none, some (.aload_n 0, 101, 0, 0, 0), some (.aload_n 0, 102, 0, 0, 0), some (.getfield 207, 105, 10, 18, 0), none, none, some (.iconst (-1), 106, 0, 0, 0), some (.if_icmp .ne 7, 109, 113, 0, 0), none, none, some (.iload_n 1, 110, 0, 0, 0), some (.goto 7, 113, 117, 0, 0), none],
  [none, some (.aload_n 0, 114, 0, 0, 0), some (.getfield 207, 117, 10, 18, 0), none, none, some (.putfield 207, 120, 10, 18, 0), none, none, some (.aload_n 0, 121, 0, 0, 0), some (.dup, 122, 0, 0, 0), some (.getfield 204, 125, 10, 17, 0), none, none, some (.iconst 1, 126, 0, 0, 0), some (.iadd, 127, 0, 0, 0), some (.putfield 204, 130, 10, 17, 0)],
  [none, none, some (.iinc 1 1, 133, 0, 0, 0), none, none, some (.goto (-95), 136, 38, 0, 0), none, none, some (.iconst 0, 137, 0, 0, 0), some (.istore_n 1, 138, 0, 0, 0), some (.iload_n 1, 139, 0, 0, 0), some (.bipush 7, 141, 0, 0, 0), none, some (.if_icmp .ge 21, 144, 162, 0, 0), none, none],
  [some (.aload_n 0, 145, 0, 0, 0), some (.getfield 31, 148, 10, 11, 0), none, none, some (.iload_n 1, 149, 0, 0, 0), some (.aload_n 0, 150, 0, 0, 0), some (.getfield 46, 153, 10, 16, 0), none, none, some (.iload_n 1, 154, 0, 0, 0), some (.iaload, 155, 0, 0, 0), some (.iastore, 156, 0, 0, 0), some (.iinc 1 1, 159, 0, 0, 0), none, none, some (.goto (-21), 162, 138, 0, 0)],
  [none, none, some (.return_, 163, 0, 0, 0)]]
def T_X10_restOf : am_T := [[some (.aload_n 0, 1, 0, 0, 0), some (.getfield 113, 4, 10, 8, 0), none, none, some (.bipush 6, 6, 0, 0, 0), none, some (.if_icmp .le 6, 9, 12, 0, 0), none, none, some (.bipush (-4), 11, 0, 0, 0), none, some (.ireturn, 12, 0, 0, 0), some (.aload_n 0, 13, 0, 0, 0), some (.invokevirtual 213, 16, 159, 1, 0), none, none],
  [some (.iload_n 1, 17, 0, 0, 0), some (.iconst (-1), 18, 0, 0, 0), some (.if_icmp .ne 8, 21, 26, 0, 0), none, none, some (.aload_n 0, 22, 0, 0, 0), some (.getfield 204, 25, 10, 17, 0), none, none, some (.ireturn, 26, 0, 0, 0), some (.aload_n 0, 27, 0, 0, 0), some (.getfield 207, 30, 10, 18, 0), none, none, some (.iconst (-1), 31, 0, 0, 0), some (.if_icmp .ne 7, 34, 38, 0, 0)],
  [none, none, some (.iconst (-1), 35, 0, 0, 0), some (.goto 20, 38, 55, 0, 0), none, none, some (.aload_n 0, 39, 0, 0, 0), some (.getfield 207, 42, 10, 18, 0), none, none, some (.iconst 2, 43, 0, 0, 0), some (.aload_n 0, 44, 0, 0, 0), some (.getfield 113, 47, 10, 8, 0), none, none, some (.iconst 1, 48, 0, 0, 0)],
  [some (.isub, 49, 0, 0, 0), some (.iload_n 1, 50, 0, 0, 0), some (.isub, 51, 0, 0, 0), some (.imul, 52, 0, 0, 0), some (.ishr, 53, 0, 0, 0), some (.iconst 3, 54, 0, 0, 0), some (.iand, 55, 0, 0, 0), some (.ireturn, 56, 0, 0, 0)]]
def T_X10_rest : am_T := [[some (.aload_n 0, 1, 0, 0, 0), some (.invokevirtual 130, 4, 129, 1, 0), none, none, some (.pop, 5, 0, 0, 0), some (.iload_n 1, 6, 0, 0, 0), some (.i2l, 7, 0, 0, 0), some (.ldc2_w 216, 10, 0, 0, (-1)), none, none, some (.aload_n 0, 11, 0, 0, 0), some (.getfield 113, 14, 10, 8, 0), none, none, some (.iconst 1, 15, 0, 0, 0), some (.isub, 16, 0, 0, 0)],
  [some (.i2l, 17, 0, 0, 0), some (.invokestatic 74, 20, 109, 3, 0), none, none, some (.ifCond .eq 11, 23, 31, 0, 0), none, none, some (.aload_n 0, 24, 0, 0, 0), some (.iload_n 1, 25, 0, 0, 0), some (.invokevirtual 218, 28, 160, 2, 0), none, none, some (.goto 5, 31, 33, 0, 0), none, none, some (.bipush (-2), 33, 0, 0, 0)],
  [none, some (.ireturn, 34, 0, 0, 0)]]
def T_X10_wouldChange : am_T := [[some (.aload_n 0, 1, 0, 0, 0), some (.invokevirtual 189, 4, 147, 1, 0), none, none, some (.aload_n 0, 5, 0, 0, 0), some (.iload_n 1, 6, 0, 0, 0), some (.aload_n 0, 7, 0, 0, 0), some (.invokevirtual 176, 10, 146, 1, 0), none, none, some (.invokevirtual 195, 13, 150, 3, 0), none, none, some (.istore_n 3, 14, 0, 0, 0), some (.aload_n 0, 15, 0, 0, 0), some (.iload_n 2, 16, 0, 0, 0)],
  [some (.aload_n 0, 17, 0, 0, 0), some (.invokevirtual 176, 20, 146, 1, 0), none, none, some (.invokevirtual 195, 23, 150, 3, 0), none, none, some (.istore 4, 25, 0, 0, 0), none, some (.aload_n 0, 26, 0, 0, 0), some (.getfield 43, 29, 10, 15, 0), none, none, some (.iload_n 1, 30, 0, 0, 0), some (.iaload, 31, 0, 0, 0), some (.istore 5, 33, 0, 0, 0)],
  [none, some (.aload_n 0, 34, 0, 0, 0), some (.getfield 43, 37, 10, 15, 0), none, none, some (.iload_n 1, 38, 0, 0, 0), some (.aload_n 0, 39, 0, 0, 0), some (.getfield 43, 42, 10, 15, 0), none, none, some (.iload_n 2, 43, 0, 0, 0), some (.iaload, 44, 0, 0, 0), some (.iastore, 45, 0, 0, 0), some (.aload_n 0, 46, 0, 0, 0), some (.getfield 43, 49, 10, 15, 0), none],
  [none, some (.iload_n 2, 50, 0, 0, 0), some (.iload 5, 52, 0, 0, 0), none, some (.iastore, 53, 0, 0, 0), some (.aload_n 0, 54, 0, 0, 0), some (.iload_n 1, 55, 0, 0, 0), some (.aload_n 0, 56, 0, 0, 0), some (.invokevirtual 176, 59, 146, 1, 0), none, none, some (.invokevirtual 195, 62, 150, 3, 0), none, none, some (.iload_n 3, 63, 0, 0, 0), some (.if_icmp .le 21, 66, 84, 0, 0)],
  [none, none, some (.aload_n 0, 67, 0, 0, 0), some (.iload_n 2, 68, 0, 0, 0), some (.aload_n 0, 69, 0, 0, 0), some (.invokevirtual 176, 72, 146, 1, 0), none, none, some (.invokevirtual 195, 75, 150, 3, 0), none, none, some (.iload 4, 77, 0, 0, 0), none, some (.if_icmp .le 7, 80, 84, 0, 0), none, none],
  [some (.iconst 1, 81, 0, 0, 0), some (.goto 4, 84, 85, 0, 0), none, none, some (.iconst 0, 85, 0, 0, 0), some (.ireturn, 86, 0, 1, 0)]]
def T_X10_change : am_T := [[some (.aload_n 0, 1, 0, 0, 0), some (.iload_n 1, 2, 0, 0, 0), some (.invokevirtual 142, 5, 131, 2, 0), none, none, some (.ifCond .eq 16, 8, 21, 0, 0), none, none, some (.aload_n 0, 9, 0, 0, 0), some (.iload_n 2, 10, 0, 0, 0), some (.invokevirtual 142, 13, 131, 2, 0), none, none, some (.ifCond .eq 8, 16, 21, 0, 0), none, none],
  [some (.iload_n 1, 17, 0, 0, 0), some (.iload_n 2, 18, 0, 0, 0), some (.if_icmp .ne 6, 21, 24, 0, 0), none, none, some (.bipush (-2), 23, 0, 0, 0), none, some (.ireturn, 24, 0, 0, 0), some (.aload_n 0, 25, 0, 0, 0), some (.iload_n 1, 26, 0, 0, 0), some (.invokevirtual 173, 29, 144, 2, 0), none, none, some (.ifCond .ne 11, 32, 40, 0, 0), none, none],
  [some (.aload_n 0, 33, 0, 0, 0), some (.iload_n 2, 34, 0, 0, 0), some (.invokevirtual 173, 37, 144, 2, 0), none, none, some (.ifCond .eq 8, 40, 45, 0, 0), none, none, some (.bipush (-3), 42, 0, 0, 0), none, some (.goto 17, 45, 59, 0, 0), none, none, some (.aload_n 0, 46, 0, 0, 0), some (.iload_n 1, 47, 0, 0, 0), some (.iload_n 2, 48, 0, 0, 0)],
  [some (.invokevirtual 221, 51, 162, 3, 0), none, none, some (.ifCond .eq 7, 54, 58, 0, 0), none, none, some (.iconst 1, 55, 0, 0, 0), some (.goto 4, 58, 59, 0, 0), none, none, some (.iconst 0, 59, 0, 0, 0), some (.ireturn, 60, 0, 0, 0)]]
def T_X10_changesNow : am_T := [[some (.iconst 0, 1, 0, 0, 0), some (.istore_n 1, 2, 0, 0, 0), some (.iconst 0, 3, 0, 0, 0), some (.istore_n 2, 4, 0, 0, 0), some (.iload_n 2, 5, 0, 0, 0), some (.aload_n 0, 6, 0, 0, 0), some (.getfield 113, 9, 10, 8, 0), none, none, some (.if_icmp .ge 55, 12, 64, 0, 0), none, none, some (.iconst 0, 13, 0, 0, 0), some (.istore_n 3, 14, 0, 0, 0), some (.iload_n 3, 15, 0, 0, 0), some (.iload_n 2, 16, 0, 0, 0)],
  [some (.if_icmp .ge 42, 19, 58, 0, 0), none, none, some (.iload_n 1, 20, 0, 0, 0), some (.aload_n 0, 21, 0, 0, 0), some (.iload_n 2, 22, 0, 0, 0), some (.invokevirtual 173, 25, 144, 2, 0), none, none, some (.ifCond .ne 24, 28, 49, 0, 0), none, none, some (.aload_n 0, 29, 0, 0, 0), some (.iload_n 3, 30, 0, 0, 0), some (.invokevirtual 173, 33, 144, 2, 0), none],
  [none, some (.ifCond .ne 16, 36, 49, 0, 0), none, none, some (.aload_n 0, 37, 0, 0, 0), some (.iload_n 2, 38, 0, 0, 0), some (.iload_n 3, 39, 0, 0, 0), some (.invokevirtual 221, 42, 162, 3, 0), none, none, some (.ifCond .eq 7, 45, 49, 0, 0), none, none, some (.iconst 1, 46, 0, 0, 0), some (.goto 4, 49, 50, 0, 0), none],
  [none, some (.iconst 0, 50, 0, 0, 0), some (.iadd, 51, 0, 0, 0), some (.istore_n 1, 52, 0, 0, 0), some (.iinc 3 1, 55, 0, 0, 0), none, none, some (.goto (-41), 58, 14, 0, 0), none, none, some (.iinc 2 1, 61, 0, 0, 0), none, none, some (.goto (-57), 64, 4, 0, 0), none, none],
  [some (.iload_n 1, 65, 0, 0, 0), some (.ireturn, 66, 0, 0, 0)]]
def T_X10_changes : am_T := [[some (.aload_n 0, 1, 0, 0, 0), some (.invokevirtual 130, 4, 129, 1, 0), none, none, some (.pop, 5, 0, 0, 0), some (.aload_n 0, 6, 0, 0, 0), some (.invokevirtual 224, 9, 164, 1, 0), none, none, some (.ireturn, 10, 0, 0, 0)]]
def T_X10_hasIn : am_T := [[some (.iload_n 2, 1, 0, 0, 0), some (.iload_n 1, 2, 0, 0, 0), some (.ishr, 3, 0, 0, 0), some (.iconst 1, 4, 0, 0, 0), some (.iand, 5, 0, 0, 0), some (.istore_n 3, 6, 0, 0, 0), some (.iload_n 3, 7, 0, 0, 0), some (.iconst 1, 8, 0, 0, 0), some (.if_icmp .ne 7, 11, 15, 0, 0), none, none, some (.iload_n 2, 12, 0, 0, 0), some (.goto 11, 15, 23, 0, 0), none, none, some (.aload_n 0, 16, 0, 0, 0)],
  [some (.invokevirtual 176, 19, 146, 1, 0), none, none, some (.iload_n 2, 20, 0, 0, 0), some (.iconst (-1), 21, 0, 0, 0), some (.ixor, 22, 0, 0, 0), some (.iand, 23, 0, 0, 0), some (.istore 4, 25, 0, 0, 0), none, some (.aload_n 0, 26, 0, 0, 0), some (.iload 4, 28, 0, 0, 0), none, some (.iload_n 3, 29, 0, 0, 0), some (.invokevirtual 179, 32, 145, 3, 0), none, none],
  [some (.aload_n 0, 33, 0, 0, 0), some (.iload_n 1, 34, 0, 0, 0), some (.iload 4, 36, 0, 0, 0), none, some (.invokevirtual 195, 39, 150, 3, 0), none, none, some (.ireturn, 40, 0, 0, 0)]]
def T_X10_churchesOf : am_T := [[some (.iconst 0, 1, 0, 0, 0), some (.istore_n 2, 2, 0, 0, 0), some (.iconst (-1), 3, 0, 0, 0), some (.istore_n 3, 4, 0, 0, 0), some (.iconst 0, 5, 0, 0, 0), some (.istore 4, 7, 0, 0, 0), none, some (.iload 4, 9, 0, 0, 0), none, some (.aload_n 0, 10, 0, 0, 0), some (.invokevirtual 176, 13, 146, 1, 0), none, none, some (.if_icmp .gt 96, 16, 109, 0, 0), none, none],
  [some (.iconst 1, 17, 0, 0, 0), some (.istore 5, 19, 0, 0, 0), none, some (.iconst 0, 20, 0, 0, 0), some (.istore 6, 22, 0, 0, 0), none, some (.iload 6, 24, 0, 0, 0), none, some (.aload_n 0, 25, 0, 0, 0), some (.getfield 113, 28, 10, 8, 0), none, none, some (.if_icmp .ge 45, 31, 73, 0, 0), none, none, some (.iload 5, 33, 0, 0, 0)],
  [none, some (.ifCond .eq 31, 36, 64, 0, 0), none, none, some (.aload_n 0, 37, 0, 0, 0), some (.iload 6, 39, 0, 0, 0), none, some (.iload 4, 41, 0, 0, 0), none, some (.iconst 1, 42, 0, 0, 0), some (.iload 6, 44, 0, 0, 0), none, some (.ishl, 45, 0, 0, 0), some (.ixor, 46, 0, 0, 0), some (.invokevirtual 227, 49, 166, 3, 0), none],
  [none, some (.aload_n 0, 50, 0, 0, 0), some (.iload 6, 52, 0, 0, 0), none, some (.iload 4, 54, 0, 0, 0), none, some (.invokevirtual 227, 57, 166, 3, 0), none, none, some (.if_icmp .gt 7, 60, 64, 0, 0), none, none, some (.iconst 1, 61, 0, 0, 0), some (.goto 4, 64, 65, 0, 0), none, none],
  [some (.iconst 0, 65, 0, 0, 0), some (.istore 5, 67, 0, 0, 0), none, some (.iinc 6 1, 70, 0, 0, 0), none, none, some (.goto (-48), 73, 22, 0, 0), none, none, some (.iload 5, 75, 0, 0, 0), none, some (.ifCond .eq 13, 78, 88, 0, 0), none, none, some (.iload_n 3, 79, 0, 0, 0), some (.iconst (-1), 80, 0, 0, 0)],
  [some (.if_icmp .ne 8, 83, 88, 0, 0), none, none, some (.iload 4, 85, 0, 0, 0), none, some (.goto 4, 88, 89, 0, 0), none, none, some (.iload_n 3, 89, 0, 0, 0), some (.istore_n 3, 90, 0, 0, 0), some (.iload_n 2, 91, 0, 0, 0), some (.iload 5, 93, 0, 0, 0), none, some (.ifCond .eq 7, 96, 100, 0, 0), none, none],
  [some (.iconst 1, 97, 0, 0, 0), some (.goto 4, 100, 101, 0, 0), none, none, some (.iconst 0, 101, 0, 0, 0), some (.iadd, 102, 0, 0, 0), some (.istore_n 2, 103, 0, 0, 0), some (.iinc 4 1, 106, 0, 0, 0), none, none, some (.goto (-99), 109, 7, 0, 0), none, none, some (.iload_n 1, 110, 0, 0, 0), some (.ifCond .ne 7, 113, 117, 0, 0), none],
  [none, some (.iload_n 2, 114, 0, 0, 0), some (.goto 4, 117, 118, 0, 0), none, none, some (.iload_n 3, 118, 0, 0, 0), some (.ireturn, 119, 0, 0, 0)]]
def T_X10_churches : am_T := [[some (.aload_n 0, 1, 0, 0, 0), some (.invokevirtual 130, 4, 129, 1, 0), none, none, some (.pop, 5, 0, 0, 0), some (.iload_n 1, 6, 0, 0, 0), some (.invokestatic 153, 9, 111, 1, 0), none, none, some (.ifCond .eq 11, 12, 20, 0, 0), none, none, some (.aload_n 0, 13, 0, 0, 0), some (.iload_n 1, 14, 0, 0, 0), some (.invokevirtual 230, 17, 167, 2, 0), none],
  [none, some (.goto 5, 20, 22, 0, 0), none, none, some (.bipush (-2), 22, 0, 0, 0), none, some (.ireturn, 23, 0, 0, 0)]]
def T_X10_tells : am_T := [[some (.aload_n 0, 1, 0, 0, 0), some (.getfield 233, 4, 10, 19, 0), none, none, some (.bipush 8, 6, 0, 0, 0), none, some (.if_icmp .ne 6, 9, 12, 0, 0), none, none, some (.bipush (-4), 11, 0, 0, 0), none, some (.ireturn, 12, 0, 0, 0), some (.aload_n 0, 13, 0, 0, 0), some (.getfield 49, 16, 10, 20, 0), none, none],
  [some (.iconst 3, 17, 0, 0, 0), some (.aload_n 0, 18, 0, 0, 0), some (.getfield 233, 21, 10, 19, 0), none, none, some (.imul, 22, 0, 0, 0), some (.iload_n 1, 23, 0, 0, 0), some (.iastore, 24, 0, 0, 0), some (.aload_n 0, 25, 0, 0, 0), some (.getfield 49, 28, 10, 20, 0), none, none, some (.iconst 3, 29, 0, 0, 0), some (.aload_n 0, 30, 0, 0, 0), some (.getfield 233, 33, 10, 19, 0), none],
  [none, some (.imul, 34, 0, 0, 0), some (.iconst 1, 35, 0, 0, 0), some (.iadd, 36, 0, 0, 0), some (.iload_n 2, 37, 0, 0, 0), some (.iastore, 38, 0, 0, 0), some (.aload_n 0, 39, 0, 0, 0), some (.getfield 49, 42, 10, 20, 0), none, none, some (.iconst 3, 43, 0, 0, 0), some (.aload_n 0, 44, 0, 0, 0), some (.getfield 233, 47, 10, 19, 0), none, none, some (.imul, 48, 0, 0, 0)],
  [some (.iconst 2, 49, 0, 0, 0), some (.iadd, 50, 0, 0, 0), some (.iload_n 3, 51, 0, 0, 0), some (.iastore, 52, 0, 0, 0), some (.aload_n 0, 53, 0, 0, 0), some (.dup, 54, 0, 0, 0), some (.getfield 233, 57, 10, 19, 0), none, none, some (.iconst 1, 58, 0, 0, 0), some (.iadd, 59, 0, 0, 0), some (.putfield 233, 62, 10, 19, 0), none, none, some (.aload_n 0, 63, 0, 0, 0), some (.getfield 233, 66, 10, 19, 0)],
  [none, none, some (.ireturn, 67, 0, 0, 0)]]
def T_X10_sat : am_T := [[some (.iload_n 1, 1, 0, 0, 0), some (.invokestatic 148, 4, 112, 1, 0), none, none, some (.ifCond .eq 20, 7, 24, 0, 0), none, none, some (.iload_n 2, 8, 0, 0, 0), some (.invokestatic 148, 11, 112, 1, 0), none, none, some (.ifCond .eq 13, 14, 24, 0, 0), none, none, some (.aload_n 0, 15, 0, 0, 0), some (.iconst 0, 16, 0, 0, 0)],
  [some (.iload_n 1, 17, 0, 0, 0), some (.iload_n 2, 18, 0, 0, 0), some (.invokevirtual 236, 21, 169, 4, 0), none, none, some (.goto 5, 24, 26, 0, 0), none, none, some (.bipush (-2), 26, 0, 0, 0), none, some (.ireturn, 27, 0, 0, 0)]]
def T_X10_front : am_T := [[some (.iload_n 1, 1, 0, 0, 0), some (.invokestatic 148, 4, 112, 1, 0), none, none, some (.ifCond .eq 25, 7, 29, 0, 0), none, none, some (.iload_n 2, 8, 0, 0, 0), some (.invokestatic 148, 11, 112, 1, 0), none, none, some (.ifCond .eq 18, 14, 29, 0, 0), none, none, some (.iload_n 1, 15, 0, 0, 0), some (.iload_n 2, 16, 0, 0, 0)],
  [some (.if_icmp .eq 13, 19, 29, 0, 0), none, none, some (.aload_n 0, 20, 0, 0, 0), some (.iconst 1, 21, 0, 0, 0), some (.iload_n 1, 22, 0, 0, 0), some (.iload_n 2, 23, 0, 0, 0), some (.invokevirtual 236, 26, 169, 4, 0), none, none, some (.goto 5, 29, 31, 0, 0), none, none, some (.bipush (-2), 31, 0, 0, 0), none, some (.ireturn, 32, 0, 0, 0)]]
def T_X10_forget : am_T := [[some (.aload_n 0, 1, 0, 0, 0), some (.getfield 233, 4, 10, 19, 0), none, none, some (.istore_n 1, 5, 0, 0, 0), some (.aload_n 0, 6, 0, 0, 0), some (.iconst 0, 7, 0, 0, 0), some (.putfield 233, 10, 10, 19, 0), none, none, some (.iload_n 1, 11, 0, 0, 0), some (.ireturn, 12, 0, 0, 0)]]
def T_X10_goesOn : am_T := [[some (.aload_n 0, 1, 0, 0, 0), some (.getfield 113, 4, 10, 8, 0), none, none, some (.iconst 2, 5, 0, 0, 0), some (.isub, 6, 0, 0, 0), some (.istore_n 1, 7, 0, 0, 0), some (.iload_n 1, 8, 0, 0, 0), some (.ifCond .lt 26, 11, 34, 0, 0), none, none, some (.aload_n 0, 12, 0, 0, 0), some (.getfield 52, 15, 10, 21, 0), none, none, some (.iload_n 1, 16, 0, 0, 0)],
  [some (.iaload, 17, 0, 0, 0), some (.aload_n 0, 18, 0, 0, 0), some (.getfield 52, 21, 10, 21, 0), none, none, some (.iload_n 1, 22, 0, 0, 0), some (.iconst 1, 23, 0, 0, 0), some (.iadd, 24, 0, 0, 0), some (.iaload, 25, 0, 0, 0), some (.if_icmp .le 9, 28, 34, 0, 0), none, none, some (.iinc 1 (-1), 31, 0, 0, 0), none, none, some (.goto (-24), 34, 7, 0, 0)],
  [none, none, some (.iload_n 1, 35, 0, 0, 0), some (.ifCond .ge 5, 38, 40, 0, 0), none, none, some (.iconst 0, 39, 0, 0, 0), some (.ireturn, 40, 0, 1, 0), some (.aload_n 0, 41, 0, 0, 0), some (.getfield 113, 44, 10, 8, 0), none, none, some (.iconst 1, 45, 0, 0, 0), some (.isub, 46, 0, 0, 0), some (.istore_n 2, 47, 0, 0, 0), some (.aload_n 0, 48, 0, 0, 0)],
  [some (.getfield 52, 51, 10, 21, 0), none, none, some (.iload_n 2, 52, 0, 0, 0), some (.iaload, 53, 0, 0, 0), some (.aload_n 0, 54, 0, 0, 0), some (.getfield 52, 57, 10, 21, 0), none, none, some (.iload_n 1, 58, 0, 0, 0), some (.iaload, 59, 0, 0, 0), some (.if_icmp .ge 9, 62, 68, 0, 0), none, none, some (.iinc 2 (-1), 65, 0, 0, 0), none],
  [none, some (.goto (-18), 68, 47, 0, 0), none, none, some (.aload_n 0, 69, 0, 0, 0), some (.iload_n 1, 70, 0, 0, 0), some (.iload_n 2, 71, 0, 0, 0), some (.invokevirtual 239, 74, 174, 3, 0), none, none, some (.iload_n 1, 75, 0, 0, 0), some (.iconst 1, 76, 0, 0, 0), some (.iadd, 77, 0, 0, 0), some (.istore_n 3, 78, 0, 0, 0), some (.aload_n 0, 79, 0, 0, 0), some (.getfield 113, 82, 10, 8, 0)],
  [none, none, some (.iconst 1, 83, 0, 0, 0), some (.isub, 84, 0, 0, 0), some (.istore 4, 86, 0, 0, 0), none, some (.iload_n 3, 87, 0, 0, 0), some (.iload 4, 89, 0, 0, 0), none, some (.if_icmp .ge 19, 92, 108, 0, 0), none, none, some (.aload_n 0, 93, 0, 0, 0), some (.iload_n 3, 94, 0, 0, 0), some (.iload 4, 96, 0, 0, 0), none],
  [some (.invokevirtual 239, 99, 174, 3, 0), none, none, some (.iinc 3 1, 102, 0, 0, 0), none, none, some (.iinc 4 (-1), 105, 0, 0, 0), none, none, some (.goto (-19), 108, 86, 0, 0), none, none, some (.iconst 1, 109, 0, 0, 0), some (.ireturn, 110, 0, 1, 0)]]
def T_X10_swaps : am_T := [[some (.aload_n 0, 1, 0, 0, 0), some (.getfield 52, 4, 10, 21, 0), none, none, some (.iload_n 1, 5, 0, 0, 0), some (.iaload, 6, 0, 0, 0), some (.istore_n 3, 7, 0, 0, 0), some (.aload_n 0, 8, 0, 0, 0), some (.getfield 52, 11, 10, 21, 0), none, none, some (.iload_n 1, 12, 0, 0, 0), some (.aload_n 0, 13, 0, 0, 0), some (.getfield 52, 16, 10, 21, 0), none, none],
  [some (.iload_n 2, 17, 0, 0, 0), some (.iaload, 18, 0, 0, 0), some (.iastore, 19, 0, 0, 0), some (.aload_n 0, 20, 0, 0, 0), some (.getfield 52, 23, 10, 21, 0), none, none, some (.iload_n 2, 24, 0, 0, 0), some (.iload_n 3, 25, 0, 0, 0), some (.iastore, 26, 0, 0, 0), some (.return_, 27, 0, 0, 0)]]
def T_X10_isSo : am_T := [[some (.iconst 1, 1, 0, 0, 0), some (.istore_n 1, 2, 0, 0, 0), some (.iconst 0, 3, 0, 0, 0), some (.istore_n 2, 4, 0, 0, 0), some (.iload_n 2, 5, 0, 0, 0), some (.aload_n 0, 6, 0, 0, 0), some (.getfield 233, 9, 10, 19, 0), none, none, some (.if_icmp .ge 118, 12, 127, 0, 0), none, none, some (.aload_n 0, 13, 0, 0, 0), some (.getfield 49, 16, 10, 20, 0), none, none],
  [some (.iconst 3, 17, 0, 0, 0), some (.iload_n 2, 18, 0, 0, 0), some (.imul, 19, 0, 0, 0), some (.iconst 1, 20, 0, 0, 0), some (.iadd, 21, 0, 0, 0), some (.iaload, 22, 0, 0, 0), some (.istore_n 3, 23, 0, 0, 0), some (.aload_n 0, 24, 0, 0, 0), some (.getfield 49, 27, 10, 20, 0), none, none, some (.iconst 3, 28, 0, 0, 0), some (.iload_n 2, 29, 0, 0, 0), some (.imul, 30, 0, 0, 0), some (.iconst 2, 31, 0, 0, 0), some (.iadd, 32, 0, 0, 0)],
  [some (.iaload, 33, 0, 0, 0), some (.istore 4, 35, 0, 0, 0), none, some (.aload_n 0, 36, 0, 0, 0), some (.getfield 49, 39, 10, 20, 0), none, none, some (.iconst 3, 40, 0, 0, 0), some (.iload_n 2, 41, 0, 0, 0), some (.imul, 42, 0, 0, 0), some (.iaload, 43, 0, 0, 0), some (.ifCond .ne 35, 46, 78, 0, 0), none, none, some (.iload_n 1, 47, 0, 0, 0), some (.ifCond .eq 26, 50, 73, 0, 0)],
  [none, none, some (.iload_n 3, 51, 0, 0, 0), some (.aload_n 0, 52, 0, 0, 0), some (.getfield 113, 55, 10, 8, 0), none, none, some (.if_icmp .ge 18, 58, 73, 0, 0), none, none, some (.aload_n 0, 59, 0, 0, 0), some (.getfield 43, 62, 10, 15, 0), none, none, some (.iload_n 3, 63, 0, 0, 0), some (.iaload, 64, 0, 0, 0)],
  [some (.iload 4, 66, 0, 0, 0), none, some (.if_icmp .ne 7, 69, 73, 0, 0), none, none, some (.iconst 1, 70, 0, 0, 0), some (.goto 4, 73, 74, 0, 0), none, none, some (.iconst 0, 74, 0, 0, 0), some (.istore_n 1, 75, 0, 0, 0), some (.goto 46, 78, 121, 0, 0), none, none, some (.iload_n 1, 79, 0, 0, 0), some (.ifCond .eq 40, 82, 119, 0, 0)],
  [none, none, some (.iload_n 3, 83, 0, 0, 0), some (.aload_n 0, 84, 0, 0, 0), some (.getfield 113, 87, 10, 8, 0), none, none, some (.if_icmp .ge 32, 90, 119, 0, 0), none, none, some (.iload 4, 92, 0, 0, 0), none, some (.aload_n 0, 93, 0, 0, 0), some (.getfield 113, 96, 10, 8, 0), none, none],
  [some (.if_icmp .ge 23, 99, 119, 0, 0), none, none, some (.aload_n 0, 100, 0, 0, 0), some (.getfield 43, 103, 10, 15, 0), none, none, some (.iload_n 3, 104, 0, 0, 0), some (.iaload, 105, 0, 0, 0), some (.aload_n 0, 106, 0, 0, 0), some (.getfield 43, 109, 10, 15, 0), none, none, some (.iload 4, 111, 0, 0, 0), none, some (.iaload, 112, 0, 0, 0)],
  [some (.if_icmp .le 7, 115, 119, 0, 0), none, none, some (.iconst 1, 116, 0, 0, 0), some (.goto 4, 119, 120, 0, 0), none, none, some (.iconst 0, 120, 0, 0, 0), some (.istore_n 1, 121, 0, 0, 0), some (.iinc 2 1, 124, 0, 0, 0), none, none, some (.goto (-120), 127, 4, 0, 0), none, none, some (.iload_n 1, 128, 0, 0, 0)],
  [some (.ireturn, 129, 0, 1, 0)]]
def T_X10_looks : am_T := [[some (.iconst 0, 1, 0, 0, 0), some (.istore_n 1, 2, 0, 0, 0), some (.iload_n 1, 3, 0, 0, 0), some (.aload_n 0, 4, 0, 0, 0), some (.getfield 113, 7, 10, 8, 0), none, none, some (.if_icmp .ge 41, 10, 48, 0, 0), none, none, some (.aload_n 0, 11, 0, 0, 0), some (.getfield 43, 14, 10, 15, 0), none, none, some (.aload_n 0, 15, 0, 0, 0), some (.getfield 52, 18, 10, 21, 0)],
  [none, none, some (.iload_n 1, 19, 0, 0, 0), some (.iaload, 20, 0, 0, 0), some (.aload_n 0, 21, 0, 0, 0), some (.getfield 37, 24, 10, 13, 0), none, none, some (.iconst 1, 25, 0, 0, 0), some (.iaload, 26, 0, 0, 0), some (.ifCond .ne 7, 29, 33, 0, 0), none, none, some (.iload_n 1, 30, 0, 0, 0), some (.goto 11, 33, 41, 0, 0), none],
  [none, some (.aload_n 0, 34, 0, 0, 0), some (.getfield 113, 37, 10, 8, 0), none, none, some (.iconst 1, 38, 0, 0, 0), some (.isub, 39, 0, 0, 0), some (.iload_n 1, 40, 0, 0, 0), some (.isub, 41, 0, 0, 0), some (.iastore, 42, 0, 0, 0), some (.iinc 1 1, 45, 0, 0, 0), none, none, some (.goto (-43), 48, 2, 0, 0), none, none],
  [some (.aload_n 0, 49, 0, 0, 0), some (.dup, 50, 0, 0, 0), some (.getfield 242, 53, 10, 26, 0), none, none, some (.iconst 1, 54, 0, 0, 0), some (.iadd, 55, 0, 0, 0), some (.putfield 242, 58, 10, 26, 0), none, none, some (.iconst 0, 59, 0, 0, 0), some (.istore_n 1, 60, 0, 0, 0), some (.iload_n 1, 61, 0, 0, 0), some (.aload_n 0, 62, 0, 0, 0), some (.getfield 113, 65, 10, 8, 0), none],
  [none, some (.if_icmp .ge 28, 68, 93, 0, 0), none, none, some (.aload_n 0, 69, 0, 0, 0), some (.getfield 62, 72, 10, 24, 0), none, none, some (.iload_n 1, 73, 0, 0, 0), some (.dup2, 74, 0, 0, 0), some (.laload, 75, 0, 0, 0), some (.aload_n 0, 76, 0, 0, 0), some (.iload_n 1, 77, 0, 0, 0), some (.aload_n 0, 78, 0, 0, 0), some (.invokevirtual 176, 81, 146, 1, 0), none],
  [none, some (.invokevirtual 186, 84, 149, 3, 0), none, none, some (.i2l, 85, 0, 0, 0), some (.ladd, 86, 0, 0, 0), some (.lastore, 87, 0, 0, 0), some (.iinc 1 1, 90, 0, 0, 0), none, none, some (.goto (-30), 93, 60, 0, 0), none, none, some (.aload_n 0, 94, 0, 0, 0), some (.invokevirtual 245, 97, 175, 1, 0), none],
  [none, some (.ifCond .eq 86, 100, 183, 0, 0), none, none, some (.aload_n 0, 101, 0, 0, 0), some (.dup, 102, 0, 0, 0), some (.getfield 248, 105, 10, 25, 0), none, none, some (.iconst 1, 106, 0, 0, 0), some (.iadd, 107, 0, 0, 0), some (.putfield 248, 110, 10, 25, 0), none, none, some (.iconst 0, 111, 0, 0, 0), some (.istore_n 1, 112, 0, 0, 0)],
  [some (.iload_n 1, 113, 0, 0, 0), some (.aload_n 0, 114, 0, 0, 0), some (.getfield 113, 117, 10, 8, 0), none, none, some (.if_icmp .ge 66, 120, 183, 0, 0), none, none, some (.aload_n 0, 121, 0, 0, 0), some (.getfield 55, 124, 10, 22, 0), none, none, some (.aload_n 0, 125, 0, 0, 0), some (.getfield 52, 128, 10, 21, 0), none, none],
  [some (.iload_n 1, 129, 0, 0, 0), some (.iaload, 130, 0, 0, 0), some (.dup2, 131, 0, 0, 0), some (.iaload, 132, 0, 0, 0), some (.iconst 1, 133, 0, 0, 0), some (.iload_n 1, 134, 0, 0, 0), some (.ishl, 135, 0, 0, 0), some (.ior, 136, 0, 0, 0), some (.iastore, 137, 0, 0, 0), some (.iload_n 1, 138, 0, 0, 0), some (.iconst 1, 139, 0, 0, 0), some (.iadd, 140, 0, 0, 0), some (.istore_n 2, 141, 0, 0, 0), some (.iload_n 2, 142, 0, 0, 0), some (.aload_n 0, 143, 0, 0, 0), some (.getfield 113, 146, 10, 8, 0)],
  [none, none, some (.if_icmp .ge 31, 149, 177, 0, 0), none, none, some (.aload_n 0, 150, 0, 0, 0), some (.getfield 58, 153, 10, 23, 0), none, none, some (.bipush 7, 155, 0, 0, 0), none, some (.aload_n 0, 156, 0, 0, 0), some (.getfield 52, 159, 10, 21, 0), none, none, some (.iload_n 1, 160, 0, 0, 0)],
  [some (.iaload, 161, 0, 0, 0), some (.imul, 162, 0, 0, 0), some (.aload_n 0, 163, 0, 0, 0), some (.getfield 52, 166, 10, 21, 0), none, none, some (.iload_n 2, 167, 0, 0, 0), some (.iaload, 168, 0, 0, 0), some (.iadd, 169, 0, 0, 0), some (.iconst 1, 170, 0, 0, 0), some (.bastore, 171, 0, 0, 0), some (.iinc 2 1, 174, 0, 0, 0), none, none, some (.goto (-33), 177, 141, 0, 0), none],
  [none, some (.iinc 1 1, 180, 0, 0, 0), none, none, some (.goto (-68), 183, 112, 0, 0), none, none, some (.return_, 184, 0, 0, 0)]]
def T_X10_findOrders : am_T := [[some (.aload_n 0, 1, 0, 0, 0), some (.iconst 0, 2, 0, 0, 0), some (.putfield 248, 5, 10, 25, 0), none, none, some (.aload_n 0, 6, 0, 0, 0), some (.iconst 0, 7, 0, 0, 0), some (.putfield 242, 10, 10, 26, 0), none, none, some (.iconst 0, 11, 0, 0, 0), some (.istore_n 1, 12, 0, 0, 0), some (.iload_n 1, 13, 0, 0, 0), some (.bipush 7, 15, 0, 0, 0), none, some (.if_icmp .ge 30, 18, 45, 0, 0)],
  [none, none, some (.aload_n 0, 19, 0, 0, 0), some (.getfield 52, 22, 10, 21, 0), none, none, some (.iload_n 1, 23, 0, 0, 0), some (.iload_n 1, 24, 0, 0, 0), some (.iastore, 25, 0, 0, 0), some (.aload_n 0, 26, 0, 0, 0), some (.getfield 55, 29, 10, 22, 0), none, none, some (.iload_n 1, 30, 0, 0, 0), some (.iconst 0, 31, 0, 0, 0), some (.iastore, 32, 0, 0, 0)],
  [some (.aload_n 0, 33, 0, 0, 0), some (.getfield 62, 36, 10, 24, 0), none, none, some (.iload_n 1, 37, 0, 0, 0), some (.lconst 0, 38, 0, 0, 0), some (.lastore, 39, 0, 0, 0), some (.iinc 1 1, 42, 0, 0, 0), none, none, some (.goto (-30), 45, 12, 0, 0), none, none, some (.iconst 0, 46, 0, 0, 0), some (.istore_n 1, 47, 0, 0, 0), some (.iload_n 1, 48, 0, 0, 0)],
  [some (.bipush 49, 50, 0, 0, 0), none, some (.if_icmp .ge 16, 53, 66, 0, 0), none, none, some (.aload_n 0, 54, 0, 0, 0), some (.getfield 58, 57, 10, 23, 0), none, none, some (.iload_n 1, 58, 0, 0, 0), some (.iconst 0, 59, 0, 0, 0), some (.bastore, 60, 0, 0, 0), some (.iinc 1 1, 63, 0, 0, 0), none, none, some (.goto (-16), 66, 47, 0, 0)],
  [none, none, some (.iconst 1, 67, 0, 0, 0), some (.istore_n 1, 68, 0, 0, 0), some (.iload_n 1, 69, 0, 0, 0), some (.ifCond .eq 15, 72, 84, 0, 0), none, none, some (.aload_n 0, 73, 0, 0, 0), some (.invokevirtual 251, 76, 176, 1, 0), none, none, some (.aload_n 0, 77, 0, 0, 0), some (.invokevirtual 254, 80, 173, 1, 0), none, none],
  [some (.istore_n 1, 81, 0, 0, 0), some (.goto (-13), 84, 68, 0, 0), none, none, some (.return_, 85, 0, 0, 0)]]
def T_X10_cameOf : am_T := [[some (.aload_n 0, 1, 0, 0, 0), some (.invokevirtual 257, 4, 177, 1, 0), none, none, some (.iload_n 1, 5, 0, 0, 0), some (.iconst (-1), 6, 0, 0, 0), some (.if_icmp .ne 10, 9, 16, 0, 0), none, none, some (.aload_n 0, 10, 0, 0, 0), some (.getfield 248, 13, 10, 25, 0), none, none, some (.goto 9, 16, 22, 0, 0), none, none],
  [some (.aload_n 0, 17, 0, 0, 0), some (.getfield 55, 20, 10, 22, 0), none, none, some (.iload_n 1, 21, 0, 0, 0), some (.iaload, 22, 0, 0, 0), some (.ireturn, 23, 0, 0, 0)]]
def T_X10_came : am_T := [[some (.aload_n 0, 1, 0, 0, 0), some (.invokevirtual 130, 4, 129, 1, 0), none, none, some (.pop, 5, 0, 0, 0), some (.iload_n 1, 6, 0, 0, 0), some (.i2l, 7, 0, 0, 0), some (.ldc2_w 216, 10, 0, 0, (-1)), none, none, some (.aload_n 0, 11, 0, 0, 0), some (.getfield 113, 14, 10, 8, 0), none, none, some (.iconst 1, 15, 0, 0, 0), some (.isub, 16, 0, 0, 0)],
  [some (.i2l, 17, 0, 0, 0), some (.invokestatic 74, 20, 109, 3, 0), none, none, some (.ifCond .eq 11, 23, 31, 0, 0), none, none, some (.aload_n 0, 24, 0, 0, 0), some (.iload_n 1, 25, 0, 0, 0), some (.invokevirtual 260, 28, 178, 2, 0), none, none, some (.goto 5, 31, 33, 0, 0), none, none, some (.bipush (-2), 33, 0, 0, 0)],
  [none, some (.ireturn, 34, 0, 0, 0)]]
def T_X10_sureNow : am_T := [[some (.aload_n 0, 1, 0, 0, 0), some (.invokevirtual 257, 4, 177, 1, 0), none, none, some (.iconst 0, 5, 0, 0, 0), some (.istore_n 1, 6, 0, 0, 0), some (.iconst 0, 7, 0, 0, 0), some (.istore_n 2, 8, 0, 0, 0), some (.iload_n 2, 9, 0, 0, 0), some (.aload_n 0, 10, 0, 0, 0), some (.getfield 113, 13, 10, 8, 0), none, none, some (.if_icmp .ge 55, 16, 68, 0, 0), none, none],
  [some (.iconst 0, 17, 0, 0, 0), some (.istore_n 3, 18, 0, 0, 0), some (.iload_n 3, 19, 0, 0, 0), some (.iload_n 2, 20, 0, 0, 0), some (.if_icmp .ge 42, 23, 62, 0, 0), none, none, some (.iload_n 1, 24, 0, 0, 0), some (.aload_n 0, 25, 0, 0, 0), some (.getfield 58, 28, 10, 23, 0), none, none, some (.bipush 7, 30, 0, 0, 0), none, some (.iload_n 2, 31, 0, 0, 0), some (.imul, 32, 0, 0, 0)],
  [some (.iload_n 3, 33, 0, 0, 0), some (.iadd, 34, 0, 0, 0), some (.baload, 35, 0, 0, 0), some (.aload_n 0, 36, 0, 0, 0), some (.getfield 58, 39, 10, 23, 0), none, none, some (.bipush 7, 41, 0, 0, 0), none, some (.iload_n 3, 42, 0, 0, 0), some (.imul, 43, 0, 0, 0), some (.iload_n 2, 44, 0, 0, 0), some (.iadd, 45, 0, 0, 0), some (.baload, 46, 0, 0, 0), some (.if_icmp .eq 7, 49, 53, 0, 0), none],
  [none, some (.iconst 1, 50, 0, 0, 0), some (.goto 4, 53, 54, 0, 0), none, none, some (.iconst 0, 54, 0, 0, 0), some (.iadd, 55, 0, 0, 0), some (.istore_n 1, 56, 0, 0, 0), some (.iinc 3 1, 59, 0, 0, 0), none, none, some (.goto (-41), 62, 18, 0, 0), none, none, some (.iinc 2 1, 65, 0, 0, 0), none],
  [none, some (.goto (-57), 68, 8, 0, 0), none, none, some (.iload_n 1, 69, 0, 0, 0), some (.ireturn, 70, 0, 0, 0)]]
def T_X10_sure : am_T := [[some (.aload_n 0, 1, 0, 0, 0), some (.invokevirtual 130, 4, 129, 1, 0), none, none, some (.pop, 5, 0, 0, 0), some (.aload_n 0, 6, 0, 0, 0), some (.invokevirtual 263, 9, 180, 1, 0), none, none, some (.ireturn, 10, 0, 0, 0)]]
def T_X10_part : am_T := [[some (.lload_n 0, 1, 0, 0, 0), some (.lconst 0, 2, 0, 0, 0), some (.lcmp, 3, 0, 0, 0), some (.ifCond .ge 8, 6, 11, 0, 0), none, none, some (.lload_n 0, 7, 0, 0, 0), some (.lneg, 8, 0, 0, 0), some (.goto 4, 11, 12, 0, 0), none, none, some (.lload_n 0, 12, 0, 0, 0), some (.lstore 5, 14, 0, 0, 0), none, some (.lload_n 2, 15, 0, 0, 0), some (.lstore 7, 17, 0, 0, 0)],
  [none, some (.lload 7, 19, 0, 0, 0), none, some (.lconst 0, 20, 0, 0, 0), some (.lcmp, 21, 0, 0, 0), some (.ifCond .eq 21, 24, 42, 0, 0), none, none, some (.lload 5, 26, 0, 0, 0), none, some (.lload 7, 28, 0, 0, 0), none, some (.lrem, 29, 0, 0, 0), some (.lstore 9, 31, 0, 0, 0), none, some (.lload 7, 33, 0, 0, 0)],
  [none, some (.lstore 5, 35, 0, 0, 0), none, some (.lload 9, 37, 0, 0, 0), none, some (.lstore 7, 39, 0, 0, 0), none, some (.goto (-22), 42, 17, 0, 0), none, none, some (.iload 4, 44, 0, 0, 0), none, some (.ifCond .ne 7, 47, 51, 0, 0), none, none, some (.lload_n 0, 48, 0, 0, 0)],
  [some (.goto 4, 51, 52, 0, 0), none, none, some (.lload_n 2, 52, 0, 0, 0), some (.lload 5, 54, 0, 0, 0), none, some (.ldiv, 55, 0, 0, 0), some (.lreturn, 56, 0, 0, 0)]]
def T_X10_fairOf : am_T := [[some (.aload_n 0, 1, 0, 0, 0), some (.invokevirtual 257, 4, 177, 1, 0), none, none, some (.aload_n 0, 5, 0, 0, 0), some (.getfield 62, 8, 10, 24, 0), none, none, some (.iload_n 1, 9, 0, 0, 0), some (.laload, 10, 0, 0, 0), some (.aload_n 0, 11, 0, 0, 0), some (.getfield 242, 14, 10, 26, 0), none, none, some (.i2l, 15, 0, 0, 0), some (.iload_n 2, 16, 0, 0, 0)],
  [some (.invokestatic 266, 19, 182, 3, 0), none, none, some (.lreturn, 20, 0, 0, 0)]]
def T_X10_fair : am_T := [[some (.aload_n 0, 1, 0, 0, 0), some (.iload_n 1, 2, 0, 0, 0), some (.invokevirtual 142, 5, 131, 2, 0), none, none, some (.ifCond .eq 19, 8, 24, 0, 0), none, none, some (.iload_n 2, 9, 0, 0, 0), some (.invokestatic 153, 12, 111, 1, 0), none, none, some (.ifCond .eq 12, 15, 24, 0, 0), none, none, some (.aload_n 0, 16, 0, 0, 0)],
  [some (.iload_n 1, 17, 0, 0, 0), some (.iload_n 2, 18, 0, 0, 0), some (.invokevirtual 270, 21, 183, 3, 0), none, none, some (.goto 8, 24, 29, 0, 0), none, none, some (.bipush (-2), 26, 0, 0, 0), none, some (.invokestatic 274, 29, 110, 1, 0), none, none, some (.lreturn, 30, 0, 0, 0)]]
def T_X10_lotOf : am_T := [[some (.iload_n 1, 1, 0, 0, 0), some (.istore_n 3, 2, 0, 0, 0), some (.aload_n 0, 3, 0, 0, 0), some (.invokevirtual 176, 6, 146, 1, 0), none, none, some (.istore 4, 8, 0, 0, 0), none, some (.iconst (-1), 9, 0, 0, 0), some (.istore 5, 11, 0, 0, 0), none, some (.iconst 0, 12, 0, 0, 0), some (.istore 6, 14, 0, 0, 0), none, some (.iload 6, 16, 0, 0, 0), none],
  [some (.iload_n 2, 17, 0, 0, 0), some (.if_icmp .gt 88, 20, 105, 0, 0), none, none, some (.ldc_w 278, 23, 0, 0, 1103515245), none, none, some (.iload_n 3, 24, 0, 0, 0), some (.imul, 25, 0, 0, 0), some (.sipush 12345, 28, 0, 0, 0), none, none, some (.iadd, 29, 0, 0, 0), some (.istore_n 3, 30, 0, 0, 0), some (.iload_n 3, 31, 0, 0, 0), some (.bipush 16, 33, 0, 0, 0)],
  [none, some (.iushr, 34, 0, 0, 0), some (.aload_n 0, 35, 0, 0, 0), some (.getfield 113, 38, 10, 8, 0), none, none, some (.iload 6, 40, 0, 0, 0), none, some (.isub, 41, 0, 0, 0), some (.irem, 42, 0, 0, 0), some (.istore 7, 44, 0, 0, 0), none, some (.iconst 0, 45, 0, 0, 0), some (.istore 5, 47, 0, 0, 0), none, some (.iload 4, 49, 0, 0, 0)],
  [none, some (.iload 5, 51, 0, 0, 0), none, some (.invokestatic 169, 54, 113, 2, 0), none, none, some (.ifCond .eq 8, 57, 62, 0, 0), none, none, some (.iload 7, 59, 0, 0, 0), none, some (.ifCond .le 29, 62, 88, 0, 0), none, none, some (.iload 7, 64, 0, 0, 0), none],
  [some (.iload 4, 66, 0, 0, 0), none, some (.iload 5, 68, 0, 0, 0), none, some (.invokestatic 169, 71, 113, 2, 0), none, none, some (.ifCond .eq 7, 74, 78, 0, 0), none, none, some (.iconst 1, 75, 0, 0, 0), some (.goto 4, 78, 79, 0, 0), none, none, some (.iconst 0, 79, 0, 0, 0), some (.isub, 80, 0, 0, 0)],
  [some (.istore 7, 82, 0, 0, 0), none, some (.iinc 5 1, 85, 0, 0, 0), none, none, some (.goto (-38), 88, 47, 0, 0), none, none, some (.iload 4, 90, 0, 0, 0), none, some (.iconst 1, 91, 0, 0, 0), some (.iload 5, 93, 0, 0, 0), none, some (.ishl, 94, 0, 0, 0), some (.iconst (-1), 95, 0, 0, 0), some (.ixor, 96, 0, 0, 0)],
  [some (.iand, 97, 0, 0, 0), some (.istore 4, 99, 0, 0, 0), none, some (.iinc 6 1, 102, 0, 0, 0), none, none, some (.goto (-88), 105, 14, 0, 0), none, none, some (.iload 5, 107, 0, 0, 0), none, some (.ireturn, 108, 0, 0, 0)]]
def T_X10_lot : am_T := [[some (.aload_n 0, 1, 0, 0, 0), some (.iload_n 2, 2, 0, 0, 0), some (.invokevirtual 142, 5, 131, 2, 0), none, none, some (.ifCond .eq 12, 8, 17, 0, 0), none, none, some (.aload_n 0, 9, 0, 0, 0), some (.iload_n 1, 10, 0, 0, 0), some (.iload_n 2, 11, 0, 0, 0), some (.invokevirtual 279, 14, 185, 3, 0), none, none, some (.goto 5, 17, 19, 0, 0), none],
  [none, some (.bipush (-2), 19, 0, 0, 0), none, some (.ireturn, 20, 0, 0, 0)]]
def T_X10_sunday : am_T := [[some (.iload_n 1, 1, 0, 0, 0), some (.invokestatic 148, 4, 112, 1, 0), none, none, some (.ifCond .eq 10, 7, 14, 0, 0), none, none, some (.iload_n 2, 8, 0, 0, 0), some (.invokestatic 153, 11, 111, 1, 0), none, none, some (.ifCond .ne 6, 14, 17, 0, 0), none, none, some (.bipush (-2), 16, 0, 0, 0), none],
  [some (.ireturn, 17, 0, 0, 0), some (.aload_n 0, 18, 0, 0, 0), some (.getfield 282, 21, 10, 27, 0), none, none, some (.bipush 60, 23, 0, 0, 0), none, some (.if_icmp .ne 6, 26, 29, 0, 0), none, none, some (.bipush (-4), 28, 0, 0, 0), none, some (.ireturn, 29, 0, 0, 0), some (.aload_n 0, 30, 0, 0, 0), some (.dup, 31, 0, 0, 0), some (.getfield 282, 34, 10, 27, 0)],
  [none, none, some (.iconst 1, 35, 0, 0, 0), some (.iadd, 36, 0, 0, 0), some (.putfield 282, 39, 10, 27, 0), none, none, some (.aload_n 0, 40, 0, 0, 0), some (.getfield 66, 43, 10, 28, 0), none, none, some (.iload_n 1, 44, 0, 0, 0), some (.dup2, 45, 0, 0, 0), some (.iaload, 46, 0, 0, 0), some (.iconst 1, 47, 0, 0, 0), some (.iadd, 48, 0, 0, 0)],
  [some (.iastore, 49, 0, 0, 0), some (.aload_n 0, 50, 0, 0, 0), some (.getfield 69, 53, 10, 29, 0), none, none, some (.iload_n 1, 54, 0, 0, 0), some (.dup2, 55, 0, 0, 0), some (.iaload, 56, 0, 0, 0), some (.iload_n 2, 57, 0, 0, 0), some (.iadd, 58, 0, 0, 0), some (.iastore, 59, 0, 0, 0), some (.aload_n 0, 60, 0, 0, 0), some (.getfield 66, 63, 10, 28, 0), none, none, some (.iload_n 1, 64, 0, 0, 0)],
  [some (.iaload, 65, 0, 0, 0), some (.ireturn, 66, 0, 0, 0)]]
def T_X10_late : am_T := [[some (.iload_n 1, 1, 0, 0, 0), some (.invokestatic 148, 4, 112, 1, 0), none, none, some (.ifCond .eq 37, 7, 41, 0, 0), none, none, some (.iload_n 2, 8, 0, 0, 0), some (.invokestatic 153, 11, 111, 1, 0), none, none, some (.ifCond .eq 30, 14, 41, 0, 0), none, none, some (.lconst 1, 15, 0, 0, 1), some (.aload_n 0, 16, 0, 0, 0)],
  [some (.getfield 69, 19, 10, 29, 0), none, none, some (.iload_n 1, 20, 0, 0, 0), some (.iaload, 21, 0, 0, 0), some (.i2l, 22, 0, 0, 0), some (.ladd, 23, 0, 0, 0), some (.ldc2_w 90, 26, 0, 0, 2), none, none, some (.aload_n 0, 27, 0, 0, 0), some (.getfield 66, 30, 10, 28, 0), none, none, some (.iload_n 1, 31, 0, 0, 0), some (.iaload, 32, 0, 0, 0)],
  [some (.i2l, 33, 0, 0, 0), some (.ladd, 34, 0, 0, 0), some (.iload_n 2, 35, 0, 0, 0), some (.invokestatic 266, 38, 182, 3, 0), none, none, some (.goto 8, 41, 46, 0, 0), none, none, some (.bipush (-2), 43, 0, 0, 0), none, some (.invokestatic 274, 46, 110, 1, 0), none, none, some (.lreturn, 47, 0, 0, 0)]]
def T_X10_allLateOf : am_T := [[some (.lconst 1, 1, 0, 0, 1), some (.lstore_n 2, 2, 0, 0, 0), some (.lconst 1, 3, 0, 0, 1), some (.lstore 4, 5, 0, 0, 0), none, some (.iconst 0, 6, 0, 0, 0), some (.istore 6, 8, 0, 0, 0), none, some (.iload 6, 10, 0, 0, 0), none, some (.aload_n 0, 11, 0, 0, 0), some (.getfield 113, 14, 10, 8, 0), none, none, some (.if_icmp .ge 39, 17, 53, 0, 0), none],
  [none, some (.lload_n 2, 18, 0, 0, 0), some (.lconst 1, 19, 0, 0, 1), some (.aload_n 0, 20, 0, 0, 0), some (.getfield 69, 23, 10, 29, 0), none, none, some (.iload 6, 25, 0, 0, 0), none, some (.iaload, 26, 0, 0, 0), some (.i2l, 27, 0, 0, 0), some (.ladd, 28, 0, 0, 0), some (.lmul, 29, 0, 0, 0), some (.lstore_n 2, 30, 0, 0, 0), some (.lload 4, 32, 0, 0, 0), none],
  [some (.ldc2_w 90, 35, 0, 0, 2), none, none, some (.aload_n 0, 36, 0, 0, 0), some (.getfield 66, 39, 10, 28, 0), none, none, some (.iload 6, 41, 0, 0, 0), none, some (.iaload, 42, 0, 0, 0), some (.i2l, 43, 0, 0, 0), some (.ladd, 44, 0, 0, 0), some (.lmul, 45, 0, 0, 0), some (.lstore 4, 47, 0, 0, 0), none, some (.iinc 6 1, 50, 0, 0, 0)],
  [none, none, some (.goto (-42), 53, 8, 0, 0), none, none, some (.lload_n 2, 54, 0, 0, 0), some (.lload 4, 56, 0, 0, 0), none, some (.iload_n 1, 57, 0, 0, 0), some (.invokestatic 266, 60, 182, 3, 0), none, none, some (.lreturn, 61, 0, 0, 0)]]
def T_X10_allLate : am_T := [[some (.aload_n 0, 1, 0, 0, 0), some (.invokevirtual 130, 4, 129, 1, 0), none, none, some (.pop, 5, 0, 0, 0), some (.iload_n 1, 6, 0, 0, 0), some (.invokestatic 153, 9, 111, 1, 0), none, none, some (.ifCond .eq 11, 12, 20, 0, 0), none, none, some (.aload_n 0, 13, 0, 0, 0), some (.iload_n 1, 14, 0, 0, 0), some (.invokevirtual 285, 17, 189, 2, 0), none],
  [none, some (.goto 8, 20, 25, 0, 0), none, none, some (.bipush (-2), 22, 0, 0, 0), none, some (.invokestatic 274, 25, 110, 1, 0), none, none, some (.lreturn, 26, 0, 0, 0)]]
def T_X10_write : am_T := [[some (.iload_n 1, 1, 0, 0, 0), some (.invokestatic 86, 4, 115, 1, 0), none, none, some (.ifCond .ne 6, 7, 10, 0, 0), none, none, some (.bipush (-2), 9, 0, 0, 0), none, some (.ireturn, 10, 0, 0, 0), some (.aload_n 0, 11, 0, 0, 0), some (.getfield 7, 14, 10, 0, 0), none, none, some (.iload_n 1, 15, 0, 0, 0), some (.iaload, 16, 0, 0, 0)],
  [some (.ifCond .ge 9, 19, 25, 0, 0), none, none, some (.aload_n 0, 20, 0, 0, 0), some (.iconst 1, 21, 0, 0, 0), some (.invokevirtual 92, 24, 114, 2, 0), none, none, some (.ireturn, 25, 0, 0, 0), some (.aload_n 0, 26, 0, 0, 0), some (.invokevirtual 130, 29, 129, 1, 0), none, none, some (.pop, 30, 0, 0, 0), some (.aload_n 0, 31, 0, 0, 0), some (.invokevirtual 189, 34, 147, 1, 0)],
  [none, none, some (.aload_n 0, 35, 0, 0, 0), some (.getfield 13, 38, 10, 1, 0), none, none, some (.iload_n 1, 39, 0, 0, 0), some (.iaload, 40, 0, 0, 0), some (.aload_n 0, 41, 0, 0, 0), some (.getfield 113, 44, 10, 8, 0), none, none, some (.invokestatic 133, 47, 132, 2, 0), none, none, some (.istore_n 2, 48, 0, 0, 0)],
  [some (.iconst 0, 49, 0, 0, 0), some (.istore_n 3, 50, 0, 0, 0), some (.iload_n 3, 51, 0, 0, 0), some (.iload_n 2, 52, 0, 0, 0), some (.if_icmp .ge 35, 55, 87, 0, 0), none, none, some (.aload_n 0, 56, 0, 0, 0), some (.getfield 16, 59, 10, 2, 0), none, none, some (.bipush 60, 61, 0, 0, 0), none, some (.iload_n 1, 62, 0, 0, 0), some (.imul, 63, 0, 0, 0), some (.iload_n 3, 64, 0, 0, 0)],
  [some (.iadd, 65, 0, 0, 0), some (.aload_n 0, 66, 0, 0, 0), some (.getfield 7, 69, 10, 0, 0), none, none, some (.iload_n 1, 70, 0, 0, 0), some (.iaload, 71, 0, 0, 0), some (.aload_n 0, 72, 0, 0, 0), some (.getfield 43, 75, 10, 15, 0), none, none, some (.iload_n 3, 76, 0, 0, 0), some (.iaload, 77, 0, 0, 0), some (.invokestatic 100, 80, 119, 2, 0), none, none],
  [some (.iastore, 81, 0, 0, 0), some (.iinc 3 1, 84, 0, 0, 0), none, none, some (.goto (-34), 87, 50, 0, 0), none, none, some (.iload_n 2, 88, 0, 0, 0), some (.ireturn, 89, 0, 0, 0)]]
def T_X10_pews : am_T := [[some (.aload_n 0, 1, 0, 0, 0), some (.invokevirtual 189, 4, 147, 1, 0), none, none, some (.iconst 0, 5, 0, 0, 0), some (.istore_n 1, 6, 0, 0, 0), some (.iconst 0, 7, 0, 0, 0), some (.istore_n 2, 8, 0, 0, 0), some (.iload_n 2, 9, 0, 0, 0), some (.aload_n 0, 10, 0, 0, 0), some (.getfield 113, 13, 10, 8, 0), none, none, some (.if_icmp .ge 41, 16, 54, 0, 0), none, none],
  [some (.iload_n 1, 17, 0, 0, 0), some (.aload_n 0, 18, 0, 0, 0), some (.getfield 43, 21, 10, 15, 0), none, none, some (.iload_n 2, 22, 0, 0, 0), some (.iaload, 23, 0, 0, 0), some (.iconst (-1), 24, 0, 0, 0), some (.if_icmp .ne 7, 27, 31, 0, 0), none, none, some (.iconst 0, 28, 0, 0, 0), some (.goto 18, 31, 46, 0, 0), none, none, some (.iconst 1, 32, 0, 0, 0)],
  [some (.aload_n 0, 33, 0, 0, 0), some (.getfield 43, 36, 10, 15, 0), none, none, some (.iload_n 2, 37, 0, 0, 0), some (.iaload, 38, 0, 0, 0), some (.aload_n 0, 39, 0, 0, 0), some (.getfield 37, 42, 10, 13, 0), none, none, some (.iconst 2, 43, 0, 0, 0), some (.iaload, 44, 0, 0, 0), some (.idiv, 45, 0, 0, 0), some (.ishl, 46, 0, 0, 0), some (.ior, 47, 0, 0, 0), some (.istore_n 1, 48, 0, 0, 0)],
  [some (.iinc 2 1, 51, 0, 0, 0), none, none, some (.goto (-43), 54, 8, 0, 0), none, none, some (.iconst 0, 55, 0, 0, 0), some (.istore_n 2, 56, 0, 0, 0), some (.iconst 0, 57, 0, 0, 0), some (.istore_n 3, 58, 0, 0, 0), some (.iload_n 3, 59, 0, 0, 0), some (.bipush 7, 61, 0, 0, 0), none, some (.if_icmp .ge 17, 64, 78, 0, 0), none, none],
  [some (.iload_n 2, 65, 0, 0, 0), some (.iload_n 1, 66, 0, 0, 0), some (.iload_n 3, 67, 0, 0, 0), some (.ishr, 68, 0, 0, 0), some (.iconst 1, 69, 0, 0, 0), some (.iand, 70, 0, 0, 0), some (.iadd, 71, 0, 0, 0), some (.istore_n 2, 72, 0, 0, 0), some (.iinc 3 1, 75, 0, 0, 0), none, none, some (.goto (-17), 78, 58, 0, 0), none, none, some (.iload_n 2, 79, 0, 0, 0), some (.ireturn, 80, 0, 0, 0)]]
def T_X10_count : am_T := [[some (.iconst 0, 1, 0, 0, 0), some (.istore_n 2, 2, 0, 0, 0), some (.aload_n 0, 3, 0, 0, 0), some (.invokevirtual 130, 6, 129, 1, 0), none, none, some (.pop, 7, 0, 0, 0), some (.iload_n 1, 8, 0, 0, 0), some (.tableswitch 148 0 8 #[52, 57, 62, 96, 121, 126, 131, 136, 143], 60, 0, 0, 0), none, none, none, none, none, none, none],
  [none, none, none, none, none, none, none, none, none, none, none, none, none, none, none, none],
  [none, none, none, none, none, none, none, none, none, none, none, none, none, none, none, none],
  [none, none, none, none, none, none, none, none, none, none, none, none, some (.aload_n 0, 61, 0, 0, 0), some (.getfield 113, 64, 10, 8, 0), none, none],
  [some (.ireturn, 65, 0, 0, 0), some (.aload_n 0, 66, 0, 0, 0), some (.getfield 107, 69, 10, 6, 0), none, none, some (.ireturn, 70, 0, 0, 0), some (.iconst 0, 71, 0, 0, 0), some (.istore_n 3, 72, 0, 0, 0), some (.iload_n 3, 73, 0, 0, 0), some (.aload_n 0, 74, 0, 0, 0), some (.getfield 113, 77, 10, 8, 0), none, none, some (.if_icmp .ge 25, 80, 102, 0, 0), none, none],
  [some (.iload_n 2, 81, 0, 0, 0), some (.aload_n 0, 82, 0, 0, 0), some (.iload_n 3, 83, 0, 0, 0), some (.invokevirtual 173, 86, 144, 2, 0), none, none, some (.ifCond .eq 7, 89, 93, 0, 0), none, none, some (.iconst 1, 90, 0, 0, 0), some (.goto 4, 93, 94, 0, 0), none, none, some (.iconst 0, 94, 0, 0, 0), some (.iadd, 95, 0, 0, 0), some (.istore_n 2, 96, 0, 0, 0)],
  [some (.iinc 3 1, 99, 0, 0, 0), none, none, some (.goto (-27), 102, 72, 0, 0), none, none, some (.iload_n 2, 103, 0, 0, 0), some (.ireturn, 104, 0, 0, 0), some (.iconst 0, 105, 0, 0, 0), some (.istore_n 3, 106, 0, 0, 0), some (.iload_n 3, 107, 0, 0, 0), some (.bipush 60, 109, 0, 0, 0), none, some (.if_icmp .ge 18, 112, 127, 0, 0), none, none],
  [some (.iload_n 2, 113, 0, 0, 0), some (.aload_n 0, 114, 0, 0, 0), some (.getfield 34, 117, 10, 12, 0), none, none, some (.iload_n 3, 118, 0, 0, 0), some (.iaload, 119, 0, 0, 0), some (.iadd, 120, 0, 0, 0), some (.istore_n 2, 121, 0, 0, 0), some (.iinc 3 1, 124, 0, 0, 0), none, none, some (.goto (-18), 127, 106, 0, 0), none, none, some (.iload_n 2, 128, 0, 0, 0)],
  [some (.ireturn, 129, 0, 0, 0), some (.aload_n 0, 130, 0, 0, 0), some (.getfield 233, 133, 10, 19, 0), none, none, some (.ireturn, 134, 0, 0, 0), some (.aload_n 0, 135, 0, 0, 0), some (.getfield 282, 138, 10, 27, 0), none, none, some (.ireturn, 139, 0, 0, 0), some (.aload_n 0, 140, 0, 0, 0), some (.invokevirtual 288, 143, 192, 1, 0), none, none, some (.ireturn, 144, 0, 0, 0)],
  [some (.aload_n 0, 145, 0, 0, 0), some (.getfield 37, 148, 10, 13, 0), none, none, some (.iconst 0, 149, 0, 0, 0), some (.iaload, 150, 0, 0, 0), some (.ireturn, 151, 0, 0, 0), some (.aload_n 0, 152, 0, 0, 0), some (.getfield 80, 155, 10, 4, 0), none, none, some (.ireturn, 156, 0, 0, 0), some (.bipush (-2), 158, 0, 0, 0), none, some (.ireturn, 159, 0, 0, 0)]]
def T_X10_digest : am_T := [[some (.ldc2_w 291, 3, 0, 0, 17), none, none, some (.lstore_n 1, 4, 0, 0, 0), some (.iconst 0, 5, 0, 0, 0), some (.istore_n 3, 6, 0, 0, 0), some (.iload_n 3, 7, 0, 0, 0), some (.bipush 8, 9, 0, 0, 0), none, some (.if_icmp .ge 22, 12, 31, 0, 0), none, none, some (.ldc2_w 293, 15, 0, 0, 31), none, none, some (.lload_n 1, 16, 0, 0, 0)],
  [some (.lmul, 17, 0, 0, 0), some (.aload_n 0, 18, 0, 0, 0), some (.iload_n 3, 19, 0, 0, 0), some (.invokevirtual 295, 22, 193, 2, 0), none, none, some (.i2l, 23, 0, 0, 0), some (.ladd, 24, 0, 0, 0), some (.lstore_n 1, 25, 0, 0, 0), some (.iinc 3 1, 28, 0, 0, 0), none, none, some (.goto (-22), 31, 6, 0, 0), none, none, some (.ldc2_w 293, 34, 0, 0, 31)],
  [none, none, some (.lload_n 1, 35, 0, 0, 0), some (.lmul, 36, 0, 0, 0), some (.aload_n 0, 37, 0, 0, 0), some (.invokevirtual 130, 40, 129, 1, 0), none, none, some (.i2l, 41, 0, 0, 0), some (.ladd, 42, 0, 0, 0), some (.lstore_n 1, 43, 0, 0, 0), some (.iconst 0, 44, 0, 0, 0), some (.istore_n 3, 45, 0, 0, 0), some (.iload_n 3, 46, 0, 0, 0), some (.aload_n 0, 47, 0, 0, 0), some (.getfield 113, 50, 10, 8, 0)],
  [none, none, some (.if_icmp .ge 197, 53, 247, 0, 0), none, none, some (.iconst 0, 54, 0, 0, 0), some (.istore 4, 56, 0, 0, 0), none, some (.iload 4, 58, 0, 0, 0), none, some (.iconst 4, 59, 0, 0, 0), some (.if_icmp .ge 24, 62, 83, 0, 0), none, none, some (.ldc2_w 293, 65, 0, 0, 31), none],
  [none, some (.lload_n 1, 66, 0, 0, 0), some (.lmul, 67, 0, 0, 0), some (.aload_n 0, 68, 0, 0, 0), some (.iload_n 3, 69, 0, 0, 0), some (.iload 4, 71, 0, 0, 0), none, some (.invokevirtual 145, 74, 135, 3, 0), none, none, some (.i2l, 75, 0, 0, 0), some (.ladd, 76, 0, 0, 0), some (.lstore_n 1, 77, 0, 0, 0), some (.iinc 4 1, 80, 0, 0, 0), none, none],
  [some (.goto (-24), 83, 56, 0, 0), none, none, some (.aload_n 0, 84, 0, 0, 0), some (.invokevirtual 189, 87, 147, 1, 0), none, none, some (.ldc2_w 293, 90, 0, 0, 31), none, none, some (.lload_n 1, 91, 0, 0, 0), some (.lmul, 92, 0, 0, 0), some (.aload_n 0, 93, 0, 0, 0), some (.getfield 43, 96, 10, 15, 0), none, none],
  [some (.iload_n 3, 97, 0, 0, 0), some (.iaload, 98, 0, 0, 0), some (.i2l, 99, 0, 0, 0), some (.ladd, 100, 0, 0, 0), some (.lstore_n 1, 101, 0, 0, 0), some (.ldc2_w 293, 104, 0, 0, 31), none, none, some (.lload_n 1, 105, 0, 0, 0), some (.lmul, 106, 0, 0, 0), some (.aload_n 0, 107, 0, 0, 0), some (.iload_n 3, 108, 0, 0, 0), some (.invokevirtual 198, 111, 154, 2, 0), none, none, some (.i2l, 112, 0, 0, 0)],
  [some (.ladd, 113, 0, 0, 0), some (.lstore_n 1, 114, 0, 0, 0), some (.ldc2_w 293, 117, 0, 0, 31), none, none, some (.lload_n 1, 118, 0, 0, 0), some (.lmul, 119, 0, 0, 0), some (.aload_n 0, 120, 0, 0, 0), some (.iload_n 3, 121, 0, 0, 0), some (.iconst 0, 122, 0, 0, 0), some (.invokevirtual 201, 125, 156, 3, 0), none, none, some (.i2l, 126, 0, 0, 0), some (.ladd, 127, 0, 0, 0), some (.lstore_n 1, 128, 0, 0, 0)],
  [some (.ldc2_w 293, 131, 0, 0, 31), none, none, some (.lload_n 1, 132, 0, 0, 0), some (.lmul, 133, 0, 0, 0), some (.aload_n 0, 134, 0, 0, 0), some (.iload_n 3, 135, 0, 0, 0), some (.iconst 1, 136, 0, 0, 0), some (.invokevirtual 201, 139, 156, 3, 0), none, none, some (.i2l, 140, 0, 0, 0), some (.ladd, 141, 0, 0, 0), some (.lstore_n 1, 142, 0, 0, 0), some (.ldc2_w 293, 145, 0, 0, 31), none],
  [none, some (.lload_n 1, 146, 0, 0, 0), some (.lmul, 147, 0, 0, 0), some (.aload_n 0, 148, 0, 0, 0), some (.iload_n 3, 149, 0, 0, 0), some (.invokevirtual 218, 152, 160, 2, 0), none, none, some (.i2l, 153, 0, 0, 0), some (.ladd, 154, 0, 0, 0), some (.lstore_n 1, 155, 0, 0, 0), some (.ldc2_w 293, 158, 0, 0, 31), none, none, some (.lload_n 1, 159, 0, 0, 0), some (.lmul, 160, 0, 0, 0)],
  [some (.aload_n 0, 161, 0, 0, 0), some (.iload_n 3, 162, 0, 0, 0), some (.invokevirtual 260, 165, 178, 2, 0), none, none, some (.i2l, 166, 0, 0, 0), some (.ladd, 167, 0, 0, 0), some (.lstore_n 1, 168, 0, 0, 0), some (.iconst 0, 169, 0, 0, 0), some (.istore 4, 171, 0, 0, 0), none, some (.iload 4, 173, 0, 0, 0), none, some (.iconst 2, 174, 0, 0, 0), some (.if_icmp .ge 23, 177, 197, 0, 0), none],
  [none, some (.ldc2_w 293, 180, 0, 0, 31), none, none, some (.lload_n 1, 181, 0, 0, 0), some (.lmul, 182, 0, 0, 0), some (.aload_n 0, 183, 0, 0, 0), some (.iload_n 3, 184, 0, 0, 0), some (.iload 4, 186, 0, 0, 0), none, some (.invokevirtual 270, 189, 183, 3, 0), none, none, some (.ladd, 190, 0, 0, 0), some (.lstore_n 1, 191, 0, 0, 0), some (.iinc 4 1, 194, 0, 0, 0)],
  [none, none, some (.goto (-23), 197, 171, 0, 0), none, none, some (.iconst 0, 198, 0, 0, 0), some (.istore 4, 200, 0, 0, 0), none, some (.iload 4, 202, 0, 0, 0), none, some (.iconst 2, 203, 0, 0, 0), some (.if_icmp .ge 23, 206, 226, 0, 0), none, none, some (.ldc2_w 293, 209, 0, 0, 31), none],
  [none, some (.lload_n 1, 210, 0, 0, 0), some (.lmul, 211, 0, 0, 0), some (.aload_n 0, 212, 0, 0, 0), some (.iload_n 3, 213, 0, 0, 0), some (.iload 4, 215, 0, 0, 0), none, some (.invokevirtual 298, 218, 188, 3, 0), none, none, some (.ladd, 219, 0, 0, 0), some (.lstore_n 1, 220, 0, 0, 0), some (.iinc 4 1, 223, 0, 0, 0), none, none, some (.goto (-23), 226, 200, 0, 0)],
  [none, none, some (.ldc2_w 293, 229, 0, 0, 31), none, none, some (.lload_n 1, 230, 0, 0, 0), some (.lmul, 231, 0, 0, 0), some (.aload_n 0, 232, 0, 0, 0), some (.bipush 7, 234, 0, 0, 0), none, some (.iload_n 3, 235, 0, 0, 0), some (.invokevirtual 279, 238, 185, 3, 0), none, none, some (.i2l, 239, 0, 0, 0), some (.ladd, 240, 0, 0, 0)],
  [some (.lstore_n 1, 241, 0, 0, 0), some (.iinc 3 1, 244, 0, 0, 0), none, none, some (.goto (-199), 247, 45, 0, 0), none, none, some (.iconst 0, 248, 0, 0, 0), some (.istore_n 3, 249, 0, 0, 0), some (.iload_n 3, 250, 0, 0, 0), some (.bipush 7, 252, 0, 0, 0), none, some (.if_icmp .ge 22, 255, 274, 0, 0), none, none, some (.ldc2_w 293, 258, 0, 0, 31)],
  [none, none, some (.lload_n 1, 259, 0, 0, 0), some (.lmul, 260, 0, 0, 0), some (.aload_n 0, 261, 0, 0, 0), some (.iload_n 3, 262, 0, 0, 0), some (.invokevirtual 192, 265, 152, 2, 0), none, none, some (.i2l, 266, 0, 0, 0), some (.ladd, 267, 0, 0, 0), some (.lstore_n 1, 268, 0, 0, 0), some (.iinc 3 1, 271, 0, 0, 0), none, none, some (.goto (-22), 274, 249, 0, 0)],
  [none, none, some (.ldc2_w 293, 277, 0, 0, 31), none, none, some (.lload_n 1, 278, 0, 0, 0), some (.lmul, 279, 0, 0, 0), some (.aload_n 0, 280, 0, 0, 0), some (.iconst (-1), 281, 0, 0, 0), some (.invokevirtual 218, 284, 160, 2, 0), none, none, some (.i2l, 285, 0, 0, 0), some (.ladd, 286, 0, 0, 0), some (.lstore_n 1, 287, 0, 0, 0), some (.ldc2_w 293, 290, 0, 0, 31)],
  [none, none, some (.lload_n 1, 291, 0, 0, 0), some (.lmul, 292, 0, 0, 0), some (.aload_n 0, 293, 0, 0, 0), some (.invokevirtual 224, 296, 164, 1, 0), none, none, some (.i2l, 297, 0, 0, 0), some (.ladd, 298, 0, 0, 0), some (.lstore_n 1, 299, 0, 0, 0), some (.ldc2_w 293, 302, 0, 0, 31), none, none, some (.lload_n 1, 303, 0, 0, 0), some (.lmul, 304, 0, 0, 0)],
  [some (.aload_n 0, 305, 0, 0, 0), some (.iconst 0, 306, 0, 0, 0), some (.invokevirtual 230, 309, 167, 2, 0), none, none, some (.i2l, 310, 0, 0, 0), some (.ladd, 311, 0, 0, 0), some (.lstore_n 1, 312, 0, 0, 0), some (.ldc2_w 293, 315, 0, 0, 31), none, none, some (.lload_n 1, 316, 0, 0, 0), some (.lmul, 317, 0, 0, 0), some (.aload_n 0, 318, 0, 0, 0), some (.iconst 1, 319, 0, 0, 0), some (.invokevirtual 230, 322, 167, 2, 0)],
  [none, none, some (.i2l, 323, 0, 0, 0), some (.ladd, 324, 0, 0, 0), some (.lstore_n 1, 325, 0, 0, 0), some (.ldc2_w 293, 328, 0, 0, 31), none, none, some (.lload_n 1, 329, 0, 0, 0), some (.lmul, 330, 0, 0, 0), some (.aload_n 0, 331, 0, 0, 0), some (.iconst (-1), 332, 0, 0, 0), some (.invokevirtual 260, 335, 178, 2, 0), none, none, some (.i2l, 336, 0, 0, 0)],
  [some (.ladd, 337, 0, 0, 0), some (.lstore_n 1, 338, 0, 0, 0), some (.ldc2_w 293, 341, 0, 0, 31), none, none, some (.lload_n 1, 342, 0, 0, 0), some (.lmul, 343, 0, 0, 0), some (.aload_n 0, 344, 0, 0, 0), some (.invokevirtual 263, 347, 180, 1, 0), none, none, some (.i2l, 348, 0, 0, 0), some (.ladd, 349, 0, 0, 0), some (.lstore_n 1, 350, 0, 0, 0), some (.ldc2_w 293, 353, 0, 0, 31), none],
  [none, some (.lload_n 1, 354, 0, 0, 0), some (.lmul, 355, 0, 0, 0), some (.aload_n 0, 356, 0, 0, 0), some (.iconst 0, 357, 0, 0, 0), some (.invokevirtual 285, 360, 189, 2, 0), none, none, some (.ladd, 361, 0, 0, 0), some (.lstore_n 1, 362, 0, 0, 0), some (.ldc2_w 293, 365, 0, 0, 31), none, none, some (.lload_n 1, 366, 0, 0, 0), some (.lmul, 367, 0, 0, 0), some (.aload_n 0, 368, 0, 0, 0)],
  [some (.iconst 1, 369, 0, 0, 0), some (.invokevirtual 285, 372, 189, 2, 0), none, none, some (.ladd, 373, 0, 0, 0), some (.lreturn, 374, 0, 0, 0)]]
def T_J6_bitCount_0f7a4 : am_T := [[some (.iload_n 0, 1, 0, 0, 0), some (.iload_n 0, 2, 0, 0, 0), some (.iconst 1, 3, 0, 0, 0), some (.iushr, 4, 0, 0, 0), some (.ldc_w 265, 7, 0, 0, 1431655765), none, none, some (.iand, 8, 0, 0, 0), some (.isub, 9, 0, 0, 0), some (.istore_n 0, 10, 0, 0, 0), some (.iload_n 0, 11, 0, 0, 0), some (.ldc_w 266, 14, 0, 0, 858993459), none, none, some (.iand, 15, 0, 0, 0), some (.iload_n 0, 16, 0, 0, 0)],
  [some (.iconst 2, 17, 0, 0, 0), some (.iushr, 18, 0, 0, 0), some (.ldc_w 266, 21, 0, 0, 858993459), none, none, some (.iand, 22, 0, 0, 0), some (.iadd, 23, 0, 0, 0), some (.istore_n 0, 24, 0, 0, 0), some (.iload_n 0, 25, 0, 0, 0), some (.iload_n 0, 26, 0, 0, 0), some (.iconst 4, 27, 0, 0, 0), some (.iushr, 28, 0, 0, 0), some (.iadd, 29, 0, 0, 0), some (.ldc_w 267, 32, 0, 0, 252645135), none, none],
  [some (.iand, 33, 0, 0, 0), some (.istore_n 0, 34, 0, 0, 0), some (.iload_n 0, 35, 0, 0, 0), some (.iload_n 0, 36, 0, 0, 0), some (.bipush 8, 38, 0, 0, 0), none, some (.iushr, 39, 0, 0, 0), some (.iadd, 40, 0, 0, 0), some (.istore_n 0, 41, 0, 0, 0), some (.iload_n 0, 42, 0, 0, 0), some (.iload_n 0, 43, 0, 0, 0), some (.bipush 16, 45, 0, 0, 0), none, some (.iushr, 46, 0, 0, 0), some (.iadd, 47, 0, 0, 0), some (.istore_n 0, 48, 0, 0, 0)],
  [some (.iload_n 0, 49, 0, 0, 0), some (.bipush 63, 51, 0, 0, 0), none, some (.iand, 52, 0, 0, 0), some (.ireturn, 53, 0, 0, 0)]]
def T_L_law : am_T := [[some (.new 7, 3, 9, 17, 0), none, none, some (.dup, 4, 0, 0, 0), some (.invokespecial 9, 7, 51, 1, 1), none, none, some (.astore_n 1, 8, 0, 0, 0), some (.new 10, 11, 10, 30, 0), none, none, some (.dup, 12, 0, 0, 0), some (.invokespecial 12, 15, 108, 1, 1), none, none, some (.astore_n 2, 16, 0, 0, 0)],
  [some (.iconst 0, 17, 0, 0, 0), some (.istore_n 3, 18, 0, 0, 0), some (.iload_n 3, 19, 0, 0, 0), some (.aload_n 0, 20, 0, 0, 0), some (.arraylength, 21, 0, 0, 0), some (.bipush 6, 23, 0, 0, 0), none, some (.isub, 24, 0, 0, 0), some (.if_icmp .gt 1169, 27, 1193, 0, 0), none, none, some (.aload_n 0, 28, 0, 0, 0), some (.iload_n 3, 29, 0, 0, 0), some (.iaload, 30, 0, 0, 0), some (.bipush 63, 32, 0, 0, 0), none],
  [some (.iand, 33, 0, 0, 0), some (.tableswitch 1154 0 34 #[155, 178, 191, 204, 237, 270, 303, 336, 379, 402, 425, 448, 471, 504, 527, 560, 573, 596, 629, 662, 675, 698, 711, 745, 778, 811, 845, 869, 912, 935, 988, 1031, 1094, 1117, 1140], 188, 0, 0, 0), none, none, none, none, none, none, none, none, none, none, none, none, none, none],
  [none, none, none, none, none, none, none, none, none, none, none, none, none, none, none, none],
  [none, none, none, none, none, none, none, none, none, none, none, none, none, none, none, none],
  [none, none, none, none, none, none, none, none, none, none, none, none, none, none, none, none],
  [none, none, none, none, none, none, none, none, none, none, none, none, none, none, none, none],
  [none, none, none, none, none, none, none, none, none, none, none, none, none, none, none, none],
  [none, none, none, none, none, none, none, none, none, none, none, none, none, none, none, none],
  [none, none, none, none, none, none, none, none, none, none, none, none, none, none, none, none],
  [none, none, none, none, none, none, none, none, none, none, none, none, none, none, none, none],
  [none, none, none, none, none, none, none, none, none, none, none, none, some (.aload_n 1, 189, 0, 0, 0), some (.aload_n 0, 190, 0, 0, 0), some (.iload_n 3, 191, 0, 0, 0), some (.iconst 1, 192, 0, 0, 0)],
  [some (.iadd, 193, 0, 0, 0), some (.iaload, 194, 0, 0, 0), some (.invokevirtual 13, 197, 52, 2, 0), none, none, some (.aload_n 2, 198, 0, 0, 0), some (.aload_n 0, 199, 0, 0, 0), some (.iload_n 3, 200, 0, 0, 0), some (.iconst 1, 201, 0, 0, 0), some (.iadd, 202, 0, 0, 0), some (.iaload, 203, 0, 0, 0), some (.invokevirtual 17, 206, 123, 2, 0), none, none, some (.if_icmp .eq 981, 209, 1187, 0, 0), none],
  [none, some (.iconst 0, 210, 0, 0, 0), some (.ireturn, 211, 0, 1, 0), some (.aload_n 1, 212, 0, 0, 0), some (.invokevirtual 18, 215, 53, 1, 0), none, none, some (.aload_n 2, 216, 0, 0, 0), some (.invokevirtual 22, 219, 124, 1, 0), none, none, some (.if_icmp .eq 968, 222, 1187, 0, 0), none, none, some (.iconst 0, 223, 0, 0, 0), some (.ireturn, 224, 0, 1, 0)],
  [some (.aload_n 1, 225, 0, 0, 0), some (.invokevirtual 23, 228, 54, 1, 0), none, none, some (.aload_n 2, 229, 0, 0, 0), some (.invokevirtual 26, 232, 130, 1, 0), none, none, some (.if_icmp .eq 955, 235, 1187, 0, 0), none, none, some (.iconst 0, 236, 0, 0, 0), some (.ireturn, 237, 0, 1, 0), some (.aload_n 1, 238, 0, 0, 0), some (.aload_n 0, 239, 0, 0, 0), some (.iload_n 3, 240, 0, 0, 0)],
  [some (.iconst 1, 241, 0, 0, 0), some (.iadd, 242, 0, 0, 0), some (.iaload, 243, 0, 0, 0), some (.aload_n 0, 244, 0, 0, 0), some (.iload_n 3, 245, 0, 0, 0), some (.iconst 2, 246, 0, 0, 0), some (.iadd, 247, 0, 0, 0), some (.iaload, 248, 0, 0, 0), some (.invokevirtual 27, 251, 55, 3, 0), none, none, some (.aload_n 2, 252, 0, 0, 0), some (.aload_n 0, 253, 0, 0, 0), some (.iload_n 3, 254, 0, 0, 0), some (.iconst 1, 255, 0, 0, 0), some (.iadd, 256, 0, 0, 0)],
  [some (.iaload, 257, 0, 0, 0), some (.aload_n 0, 258, 0, 0, 0), some (.iload_n 3, 259, 0, 0, 0), some (.iconst 2, 260, 0, 0, 0), some (.iadd, 261, 0, 0, 0), some (.iaload, 262, 0, 0, 0), some (.invokevirtual 31, 265, 136, 3, 0), none, none, some (.if_icmp .eq 922, 268, 1187, 0, 0), none, none, some (.iconst 0, 269, 0, 0, 0), some (.ireturn, 270, 0, 1, 0), some (.aload_n 1, 271, 0, 0, 0), some (.aload_n 0, 272, 0, 0, 0)],
  [some (.iload_n 3, 273, 0, 0, 0), some (.iconst 1, 274, 0, 0, 0), some (.iadd, 275, 0, 0, 0), some (.iaload, 276, 0, 0, 0), some (.aload_n 0, 277, 0, 0, 0), some (.iload_n 3, 278, 0, 0, 0), some (.iconst 2, 279, 0, 0, 0), some (.iadd, 280, 0, 0, 0), some (.iaload, 281, 0, 0, 0), some (.invokevirtual 32, 284, 56, 3, 0), none, none, some (.aload_n 2, 285, 0, 0, 0), some (.aload_n 0, 286, 0, 0, 0), some (.iload_n 3, 287, 0, 0, 0), some (.iconst 1, 288, 0, 0, 0)],
  [some (.iadd, 289, 0, 0, 0), some (.iaload, 290, 0, 0, 0), some (.aload_n 0, 291, 0, 0, 0), some (.iload_n 3, 292, 0, 0, 0), some (.iconst 2, 293, 0, 0, 0), some (.iadd, 294, 0, 0, 0), some (.iaload, 295, 0, 0, 0), some (.invokevirtual 35, 298, 137, 3, 0), none, none, some (.if_icmp .eq 889, 301, 1187, 0, 0), none, none, some (.iconst 0, 302, 0, 0, 0), some (.ireturn, 303, 0, 1, 0), some (.aload_n 1, 304, 0, 0, 0)],
  [some (.aload_n 0, 305, 0, 0, 0), some (.iload_n 3, 306, 0, 0, 0), some (.iconst 1, 307, 0, 0, 0), some (.iadd, 308, 0, 0, 0), some (.iaload, 309, 0, 0, 0), some (.aload_n 0, 310, 0, 0, 0), some (.iload_n 3, 311, 0, 0, 0), some (.iconst 2, 312, 0, 0, 0), some (.iadd, 313, 0, 0, 0), some (.iaload, 314, 0, 0, 0), some (.invokevirtual 36, 317, 57, 3, 0), none, none, some (.aload_n 2, 318, 0, 0, 0), some (.aload_n 0, 319, 0, 0, 0), some (.iload_n 3, 320, 0, 0, 0)],
  [some (.iconst 1, 321, 0, 0, 0), some (.iadd, 322, 0, 0, 0), some (.iaload, 323, 0, 0, 0), some (.aload_n 0, 324, 0, 0, 0), some (.iload_n 3, 325, 0, 0, 0), some (.iconst 2, 326, 0, 0, 0), some (.iadd, 327, 0, 0, 0), some (.iaload, 328, 0, 0, 0), some (.invokevirtual 39, 331, 138, 3, 0), none, none, some (.if_icmp .eq 856, 334, 1187, 0, 0), none, none, some (.iconst 0, 335, 0, 0, 0), some (.ireturn, 336, 0, 1, 0)],
  [some (.aload_n 1, 337, 0, 0, 0), some (.aload_n 0, 338, 0, 0, 0), some (.iload_n 3, 339, 0, 0, 0), some (.iconst 1, 340, 0, 0, 0), some (.iadd, 341, 0, 0, 0), some (.iaload, 342, 0, 0, 0), some (.aload_n 0, 343, 0, 0, 0), some (.iload_n 3, 344, 0, 0, 0), some (.iconst 2, 345, 0, 0, 0), some (.iadd, 346, 0, 0, 0), some (.iaload, 347, 0, 0, 0), some (.invokevirtual 40, 350, 58, 3, 0), none, none, some (.aload_n 2, 351, 0, 0, 0), some (.aload_n 0, 352, 0, 0, 0)],
  [some (.iload_n 3, 353, 0, 0, 0), some (.iconst 1, 354, 0, 0, 0), some (.iadd, 355, 0, 0, 0), some (.iaload, 356, 0, 0, 0), some (.aload_n 0, 357, 0, 0, 0), some (.iload_n 3, 358, 0, 0, 0), some (.iconst 2, 359, 0, 0, 0), some (.iadd, 360, 0, 0, 0), some (.iaload, 361, 0, 0, 0), some (.invokevirtual 43, 364, 141, 3, 0), none, none, some (.if_icmp .eq 823, 367, 1187, 0, 0), none, none, some (.iconst 0, 368, 0, 0, 0)],
  [some (.ireturn, 369, 0, 1, 0), some (.aload_n 1, 370, 0, 0, 0), some (.aload_n 0, 371, 0, 0, 0), some (.iload_n 3, 372, 0, 0, 0), some (.iconst 1, 373, 0, 0, 0), some (.iadd, 374, 0, 0, 0), some (.iaload, 375, 0, 0, 0), some (.aload_n 0, 376, 0, 0, 0), some (.iload_n 3, 377, 0, 0, 0), some (.iconst 2, 378, 0, 0, 0), some (.iadd, 379, 0, 0, 0), some (.iaload, 380, 0, 0, 0), some (.aload_n 0, 381, 0, 0, 0), some (.iload_n 3, 382, 0, 0, 0), some (.iconst 3, 383, 0, 0, 0), some (.iadd, 384, 0, 0, 0)],
  [some (.iaload, 385, 0, 0, 0), some (.invokevirtual 44, 388, 59, 4, 0), none, none, some (.aload_n 2, 389, 0, 0, 0), some (.aload_n 0, 390, 0, 0, 0), some (.iload_n 3, 391, 0, 0, 0), some (.iconst 1, 392, 0, 0, 0), some (.iadd, 393, 0, 0, 0), some (.iaload, 394, 0, 0, 0), some (.aload_n 0, 395, 0, 0, 0), some (.iload_n 3, 396, 0, 0, 0), some (.iconst 2, 397, 0, 0, 0), some (.iadd, 398, 0, 0, 0), some (.iaload, 399, 0, 0, 0), some (.aload_n 0, 400, 0, 0, 0)],
  [some (.iload_n 3, 401, 0, 0, 0), some (.iconst 3, 402, 0, 0, 0), some (.iadd, 403, 0, 0, 0), some (.iaload, 404, 0, 0, 0), some (.invokevirtual 48, 407, 142, 4, 0), none, none, some (.if_icmp .eq 780, 410, 1187, 0, 0), none, none, some (.iconst 0, 411, 0, 0, 0), some (.ireturn, 412, 0, 1, 0), some (.aload_n 1, 413, 0, 0, 0), some (.aload_n 0, 414, 0, 0, 0), some (.iload_n 3, 415, 0, 0, 0), some (.iconst 1, 416, 0, 0, 0)],
  [some (.iadd, 417, 0, 0, 0), some (.iaload, 418, 0, 0, 0), some (.invokevirtual 49, 421, 60, 2, 0), none, none, some (.aload_n 2, 422, 0, 0, 0), some (.aload_n 0, 423, 0, 0, 0), some (.iload_n 3, 424, 0, 0, 0), some (.iconst 1, 425, 0, 0, 0), some (.iadd, 426, 0, 0, 0), some (.iaload, 427, 0, 0, 0), some (.invokevirtual 52, 430, 143, 2, 0), none, none, some (.if_icmp .eq 757, 433, 1187, 0, 0), none],
  [none, some (.iconst 0, 434, 0, 0, 0), some (.ireturn, 435, 0, 1, 0), some (.aload_n 1, 436, 0, 0, 0), some (.aload_n 0, 437, 0, 0, 0), some (.iload_n 3, 438, 0, 0, 0), some (.iconst 1, 439, 0, 0, 0), some (.iadd, 440, 0, 0, 0), some (.iaload, 441, 0, 0, 0), some (.invokevirtual 53, 444, 61, 2, 0), none, none, some (.aload_n 2, 445, 0, 0, 0), some (.aload_n 0, 446, 0, 0, 0), some (.iload_n 3, 447, 0, 0, 0), some (.iconst 1, 448, 0, 0, 0)],
  [some (.iadd, 449, 0, 0, 0), some (.iaload, 450, 0, 0, 0), some (.invokevirtual 56, 453, 151, 2, 0), none, none, some (.if_icmp .eq 734, 456, 1187, 0, 0), none, none, some (.iconst 0, 457, 0, 0, 0), some (.ireturn, 458, 0, 1, 0), some (.aload_n 1, 459, 0, 0, 0), some (.aload_n 0, 460, 0, 0, 0), some (.iload_n 3, 461, 0, 0, 0), some (.iconst 1, 462, 0, 0, 0), some (.iadd, 463, 0, 0, 0), some (.iaload, 464, 0, 0, 0)],
  [some (.invokevirtual 57, 467, 62, 2, 0), none, none, some (.aload_n 2, 468, 0, 0, 0), some (.aload_n 0, 469, 0, 0, 0), some (.iload_n 3, 470, 0, 0, 0), some (.iconst 1, 471, 0, 0, 0), some (.iadd, 472, 0, 0, 0), some (.iaload, 473, 0, 0, 0), some (.invokevirtual 60, 476, 153, 2, 0), none, none, some (.if_icmp .eq 711, 479, 1187, 0, 0), none, none, some (.iconst 0, 480, 0, 0, 0)],
  [some (.ireturn, 481, 0, 1, 0), some (.aload_n 1, 482, 0, 0, 0), some (.aload_n 0, 483, 0, 0, 0), some (.iload_n 3, 484, 0, 0, 0), some (.iconst 1, 485, 0, 0, 0), some (.iadd, 486, 0, 0, 0), some (.iaload, 487, 0, 0, 0), some (.invokevirtual 61, 490, 63, 2, 0), none, none, some (.aload_n 2, 491, 0, 0, 0), some (.aload_n 0, 492, 0, 0, 0), some (.iload_n 3, 493, 0, 0, 0), some (.iconst 1, 494, 0, 0, 0), some (.iadd, 495, 0, 0, 0), some (.iaload, 496, 0, 0, 0)],
  [some (.invokevirtual 64, 499, 155, 2, 0), none, none, some (.if_icmp .eq 688, 502, 1187, 0, 0), none, none, some (.iconst 0, 503, 0, 0, 0), some (.ireturn, 504, 0, 1, 0), some (.aload_n 1, 505, 0, 0, 0), some (.aload_n 0, 506, 0, 0, 0), some (.iload_n 3, 507, 0, 0, 0), some (.iconst 1, 508, 0, 0, 0), some (.iadd, 509, 0, 0, 0), some (.iaload, 510, 0, 0, 0), some (.aload_n 0, 511, 0, 0, 0), some (.iload_n 3, 512, 0, 0, 0)],
  [some (.iconst 2, 513, 0, 0, 0), some (.iadd, 514, 0, 0, 0), some (.iaload, 515, 0, 0, 0), some (.invokevirtual 65, 518, 64, 3, 0), none, none, some (.aload_n 2, 519, 0, 0, 0), some (.aload_n 0, 520, 0, 0, 0), some (.iload_n 3, 521, 0, 0, 0), some (.iconst 1, 522, 0, 0, 0), some (.iadd, 523, 0, 0, 0), some (.iaload, 524, 0, 0, 0), some (.aload_n 0, 525, 0, 0, 0), some (.iload_n 3, 526, 0, 0, 0), some (.iconst 2, 527, 0, 0, 0), some (.iadd, 528, 0, 0, 0)],
  [some (.iaload, 529, 0, 0, 0), some (.invokevirtual 68, 532, 157, 3, 0), none, none, some (.if_icmp .eq 655, 535, 1187, 0, 0), none, none, some (.iconst 0, 536, 0, 0, 0), some (.ireturn, 537, 0, 1, 0), some (.aload_n 1, 538, 0, 0, 0), some (.aload_n 0, 539, 0, 0, 0), some (.iload_n 3, 540, 0, 0, 0), some (.iconst 1, 541, 0, 0, 0), some (.iadd, 542, 0, 0, 0), some (.iaload, 543, 0, 0, 0), some (.invokevirtual 69, 546, 65, 2, 1)],
  [none, none, some (.aload_n 2, 547, 0, 0, 0), some (.aload_n 0, 548, 0, 0, 0), some (.iload_n 3, 549, 0, 0, 0), some (.iconst 1, 550, 0, 0, 0), some (.iadd, 551, 0, 0, 0), some (.iaload, 552, 0, 0, 0), some (.invokevirtual 72, 555, 161, 2, 0), none, none, some (.if_icmp .eq 632, 558, 1187, 0, 0), none, none, some (.iconst 0, 559, 0, 0, 0), some (.ireturn, 560, 0, 1, 0)],
  [some (.aload_n 1, 561, 0, 0, 0), some (.aload_n 0, 562, 0, 0, 0), some (.iload_n 3, 563, 0, 0, 0), some (.iconst 1, 564, 0, 0, 0), some (.iadd, 565, 0, 0, 0), some (.iaload, 566, 0, 0, 0), some (.aload_n 0, 567, 0, 0, 0), some (.iload_n 3, 568, 0, 0, 0), some (.iconst 2, 569, 0, 0, 0), some (.iadd, 570, 0, 0, 0), some (.iaload, 571, 0, 0, 0), some (.invokevirtual 73, 574, 66, 3, 0), none, none, some (.aload_n 2, 575, 0, 0, 0), some (.aload_n 0, 576, 0, 0, 0)],
  [some (.iload_n 3, 577, 0, 0, 0), some (.iconst 1, 578, 0, 0, 0), some (.iadd, 579, 0, 0, 0), some (.iaload, 580, 0, 0, 0), some (.aload_n 0, 581, 0, 0, 0), some (.iload_n 3, 582, 0, 0, 0), some (.iconst 2, 583, 0, 0, 0), some (.iadd, 584, 0, 0, 0), some (.iaload, 585, 0, 0, 0), some (.invokevirtual 76, 588, 163, 3, 0), none, none, some (.if_icmp .eq 599, 591, 1187, 0, 0), none, none, some (.iconst 0, 592, 0, 0, 0)],
  [some (.ireturn, 593, 0, 1, 0), some (.aload_n 1, 594, 0, 0, 0), some (.invokevirtual 77, 597, 67, 1, 0), none, none, some (.aload_n 2, 598, 0, 0, 0), some (.invokevirtual 80, 601, 165, 1, 0), none, none, some (.if_icmp .eq 586, 604, 1187, 0, 0), none, none, some (.iconst 0, 605, 0, 0, 0), some (.ireturn, 606, 0, 1, 0), some (.aload_n 1, 607, 0, 0, 0), some (.aload_n 0, 608, 0, 0, 0)],
  [some (.iload_n 3, 609, 0, 0, 0), some (.iconst 1, 610, 0, 0, 0), some (.iadd, 611, 0, 0, 0), some (.iaload, 612, 0, 0, 0), some (.invokevirtual 81, 615, 68, 2, 1), none, none, some (.aload_n 2, 616, 0, 0, 0), some (.aload_n 0, 617, 0, 0, 0), some (.iload_n 3, 618, 0, 0, 0), some (.iconst 1, 619, 0, 0, 0), some (.iadd, 620, 0, 0, 0), some (.iaload, 621, 0, 0, 0), some (.invokevirtual 84, 624, 168, 2, 0), none, none],
  [some (.if_icmp .eq 563, 627, 1187, 0, 0), none, none, some (.iconst 0, 628, 0, 0, 0), some (.ireturn, 629, 0, 1, 0), some (.aload_n 1, 630, 0, 0, 0), some (.aload_n 0, 631, 0, 0, 0), some (.iload_n 3, 632, 0, 0, 0), some (.iconst 1, 633, 0, 0, 0), some (.iadd, 634, 0, 0, 0), some (.iaload, 635, 0, 0, 0), some (.aload_n 0, 636, 0, 0, 0), some (.iload_n 3, 637, 0, 0, 0), some (.iconst 2, 638, 0, 0, 0), some (.iadd, 639, 0, 0, 0), some (.iaload, 640, 0, 0, 0)],
  [some (.invokevirtual 85, 643, 69, 3, 0), none, none, some (.aload_n 2, 644, 0, 0, 0), some (.aload_n 0, 645, 0, 0, 0), some (.iload_n 3, 646, 0, 0, 0), some (.iconst 1, 647, 0, 0, 0), some (.iadd, 648, 0, 0, 0), some (.iaload, 649, 0, 0, 0), some (.aload_n 0, 650, 0, 0, 0), some (.iload_n 3, 651, 0, 0, 0), some (.iconst 2, 652, 0, 0, 0), some (.iadd, 653, 0, 0, 0), some (.iaload, 654, 0, 0, 0), some (.invokevirtual 88, 657, 170, 3, 0), none],
  [none, some (.if_icmp .eq 530, 660, 1187, 0, 0), none, none, some (.iconst 0, 661, 0, 0, 0), some (.ireturn, 662, 0, 1, 0), some (.aload_n 1, 663, 0, 0, 0), some (.aload_n 0, 664, 0, 0, 0), some (.iload_n 3, 665, 0, 0, 0), some (.iconst 1, 666, 0, 0, 0), some (.iadd, 667, 0, 0, 0), some (.iaload, 668, 0, 0, 0), some (.aload_n 0, 669, 0, 0, 0), some (.iload_n 3, 670, 0, 0, 0), some (.iconst 2, 671, 0, 0, 0), some (.iadd, 672, 0, 0, 0)],
  [some (.iaload, 673, 0, 0, 0), some (.invokevirtual 89, 676, 70, 3, 0), none, none, some (.aload_n 2, 677, 0, 0, 0), some (.aload_n 0, 678, 0, 0, 0), some (.iload_n 3, 679, 0, 0, 0), some (.iconst 1, 680, 0, 0, 0), some (.iadd, 681, 0, 0, 0), some (.iaload, 682, 0, 0, 0), some (.aload_n 0, 683, 0, 0, 0), some (.iload_n 3, 684, 0, 0, 0), some (.iconst 2, 685, 0, 0, 0), some (.iadd, 686, 0, 0, 0), some (.iaload, 687, 0, 0, 0), some (.invokevirtual 92, 690, 171, 3, 0)],
  [none, none, some (.if_icmp .eq 497, 693, 1187, 0, 0), none, none, some (.iconst 0, 694, 0, 0, 0), some (.ireturn, 695, 0, 1, 0), some (.aload_n 1, 696, 0, 0, 0), some (.invokevirtual 93, 699, 71, 1, 0), none, none, some (.aload_n 2, 700, 0, 0, 0), some (.invokevirtual 96, 703, 172, 1, 0), none, none, some (.if_icmp .eq 484, 706, 1187, 0, 0)],
  [none, none, some (.iconst 0, 707, 0, 0, 0), some (.ireturn, 708, 0, 1, 0), some (.aload_n 1, 709, 0, 0, 0), some (.aload_n 0, 710, 0, 0, 0), some (.iload_n 3, 711, 0, 0, 0), some (.iconst 1, 712, 0, 0, 0), some (.iadd, 713, 0, 0, 0), some (.iaload, 714, 0, 0, 0), some (.invokevirtual 97, 717, 72, 2, 0), none, none, some (.aload_n 2, 718, 0, 0, 0), some (.aload_n 0, 719, 0, 0, 0), some (.iload_n 3, 720, 0, 0, 0)],
  [some (.iconst 1, 721, 0, 0, 0), some (.iadd, 722, 0, 0, 0), some (.iaload, 723, 0, 0, 0), some (.invokevirtual 100, 726, 179, 2, 0), none, none, some (.if_icmp .eq 461, 729, 1187, 0, 0), none, none, some (.iconst 0, 730, 0, 0, 0), some (.ireturn, 731, 0, 1, 0), some (.aload_n 1, 732, 0, 0, 0), some (.invokevirtual 101, 735, 73, 1, 0), none, none, some (.aload_n 2, 736, 0, 0, 0)],
  [some (.invokevirtual 104, 739, 181, 1, 0), none, none, some (.if_icmp .eq 448, 742, 1187, 0, 0), none, none, some (.iconst 0, 743, 0, 0, 0), some (.ireturn, 744, 0, 1, 0), some (.aload_n 1, 745, 0, 0, 0), some (.aload_n 0, 746, 0, 0, 0), some (.iload_n 3, 747, 0, 0, 0), some (.iconst 1, 748, 0, 0, 0), some (.iadd, 749, 0, 0, 0), some (.iaload, 750, 0, 0, 0), some (.aload_n 0, 751, 0, 0, 0), some (.iload_n 3, 752, 0, 0, 0)],
  [some (.iconst 2, 753, 0, 0, 0), some (.iadd, 754, 0, 0, 0), some (.iaload, 755, 0, 0, 0), some (.invokevirtual 105, 758, 74, 3, 0), none, none, some (.aload_n 2, 759, 0, 0, 0), some (.aload_n 0, 760, 0, 0, 0), some (.iload_n 3, 761, 0, 0, 0), some (.iconst 1, 762, 0, 0, 0), some (.iadd, 763, 0, 0, 0), some (.iaload, 764, 0, 0, 0), some (.aload_n 0, 765, 0, 0, 0), some (.iload_n 3, 766, 0, 0, 0), some (.iconst 2, 767, 0, 0, 0), some (.iadd, 768, 0, 0, 0)],
  [some (.iaload, 769, 0, 0, 0), some (.invokevirtual 109, 772, 184, 3, 0), none, none, some (.lcmp, 773, 0, 0, 0), some (.ifCond .eq 414, 776, 1187, 0, 0), none, none, some (.iconst 0, 777, 0, 0, 0), some (.ireturn, 778, 0, 1, 0), some (.aload_n 1, 779, 0, 0, 0), some (.aload_n 0, 780, 0, 0, 0), some (.iload_n 3, 781, 0, 0, 0), some (.iconst 1, 782, 0, 0, 0), some (.iadd, 783, 0, 0, 0), some (.iaload, 784, 0, 0, 0)],
  [some (.aload_n 0, 785, 0, 0, 0), some (.iload_n 3, 786, 0, 0, 0), some (.iconst 2, 787, 0, 0, 0), some (.iadd, 788, 0, 0, 0), some (.iaload, 789, 0, 0, 0), some (.invokevirtual 110, 792, 75, 3, 0), none, none, some (.aload_n 2, 793, 0, 0, 0), some (.aload_n 0, 794, 0, 0, 0), some (.iload_n 3, 795, 0, 0, 0), some (.iconst 1, 796, 0, 0, 0), some (.iadd, 797, 0, 0, 0), some (.iaload, 798, 0, 0, 0), some (.aload_n 0, 799, 0, 0, 0), some (.iload_n 3, 800, 0, 0, 0)],
  [some (.iconst 2, 801, 0, 0, 0), some (.iadd, 802, 0, 0, 0), some (.iaload, 803, 0, 0, 0), some (.invokevirtual 113, 806, 186, 3, 0), none, none, some (.if_icmp .eq 381, 809, 1187, 0, 0), none, none, some (.iconst 0, 810, 0, 0, 0), some (.ireturn, 811, 0, 1, 0), some (.aload_n 1, 812, 0, 0, 0), some (.aload_n 0, 813, 0, 0, 0), some (.iload_n 3, 814, 0, 0, 0), some (.iconst 1, 815, 0, 0, 0), some (.iadd, 816, 0, 0, 0)],
  [some (.iaload, 817, 0, 0, 0), some (.aload_n 0, 818, 0, 0, 0), some (.iload_n 3, 819, 0, 0, 0), some (.iconst 2, 820, 0, 0, 0), some (.iadd, 821, 0, 0, 0), some (.iaload, 822, 0, 0, 0), some (.invokevirtual 114, 825, 76, 3, 0), none, none, some (.aload_n 2, 826, 0, 0, 0), some (.aload_n 0, 827, 0, 0, 0), some (.iload_n 3, 828, 0, 0, 0), some (.iconst 1, 829, 0, 0, 0), some (.iadd, 830, 0, 0, 0), some (.iaload, 831, 0, 0, 0), some (.aload_n 0, 832, 0, 0, 0)],
  [some (.iload_n 3, 833, 0, 0, 0), some (.iconst 2, 834, 0, 0, 0), some (.iadd, 835, 0, 0, 0), some (.iaload, 836, 0, 0, 0), some (.invokevirtual 117, 839, 187, 3, 0), none, none, some (.if_icmp .eq 348, 842, 1187, 0, 0), none, none, some (.iconst 0, 843, 0, 0, 0), some (.ireturn, 844, 0, 1, 0), some (.aload_n 1, 845, 0, 0, 0), some (.aload_n 0, 846, 0, 0, 0), some (.iload_n 3, 847, 0, 0, 0), some (.iconst 1, 848, 0, 0, 0)],
  [some (.iadd, 849, 0, 0, 0), some (.iaload, 850, 0, 0, 0), some (.aload_n 0, 851, 0, 0, 0), some (.iload_n 3, 852, 0, 0, 0), some (.iconst 2, 853, 0, 0, 0), some (.iadd, 854, 0, 0, 0), some (.iaload, 855, 0, 0, 0), some (.invokevirtual 118, 858, 77, 3, 0), none, none, some (.aload_n 2, 859, 0, 0, 0), some (.aload_n 0, 860, 0, 0, 0), some (.iload_n 3, 861, 0, 0, 0), some (.iconst 1, 862, 0, 0, 0), some (.iadd, 863, 0, 0, 0), some (.iaload, 864, 0, 0, 0)],
  [some (.aload_n 0, 865, 0, 0, 0), some (.iload_n 3, 866, 0, 0, 0), some (.iconst 2, 867, 0, 0, 0), some (.iadd, 868, 0, 0, 0), some (.iaload, 869, 0, 0, 0), some (.invokevirtual 121, 872, 188, 3, 0), none, none, some (.lcmp, 873, 0, 0, 0), some (.ifCond .eq 314, 876, 1187, 0, 0), none, none, some (.iconst 0, 877, 0, 0, 0), some (.ireturn, 878, 0, 1, 0), some (.aload_n 1, 879, 0, 0, 0), some (.aload_n 0, 880, 0, 0, 0)],
  [some (.iload_n 3, 881, 0, 0, 0), some (.iconst 1, 882, 0, 0, 0), some (.iadd, 883, 0, 0, 0), some (.iaload, 884, 0, 0, 0), some (.invokevirtual 122, 887, 78, 2, 0), none, none, some (.aload_n 2, 888, 0, 0, 0), some (.aload_n 0, 889, 0, 0, 0), some (.iload_n 3, 890, 0, 0, 0), some (.iconst 1, 891, 0, 0, 0), some (.iadd, 892, 0, 0, 0), some (.iaload, 893, 0, 0, 0), some (.invokevirtual 126, 896, 190, 2, 0), none, none],
  [some (.lcmp, 897, 0, 0, 0), some (.ifCond .eq 290, 900, 1187, 0, 0), none, none, some (.iconst 0, 901, 0, 0, 0), some (.ireturn, 902, 0, 1, 0), some (.aload_n 1, 903, 0, 0, 0), some (.aload_n 0, 904, 0, 0, 0), some (.iload_n 3, 905, 0, 0, 0), some (.iconst 1, 906, 0, 0, 0), some (.iadd, 907, 0, 0, 0), some (.iaload, 908, 0, 0, 0), some (.aload_n 0, 909, 0, 0, 0), some (.iload_n 3, 910, 0, 0, 0), some (.iconst 2, 911, 0, 0, 0), some (.iadd, 912, 0, 0, 0)],
  [some (.iaload, 913, 0, 0, 0), some (.aload_n 0, 914, 0, 0, 0), some (.iload_n 3, 915, 0, 0, 0), some (.iconst 3, 916, 0, 0, 0), some (.iadd, 917, 0, 0, 0), some (.iaload, 918, 0, 0, 0), some (.invokevirtual 127, 921, 79, 4, 0), none, none, some (.aload_n 2, 922, 0, 0, 0), some (.aload_n 0, 923, 0, 0, 0), some (.iload_n 3, 924, 0, 0, 0), some (.iconst 1, 925, 0, 0, 0), some (.iadd, 926, 0, 0, 0), some (.iaload, 927, 0, 0, 0), some (.aload_n 0, 928, 0, 0, 0)],
  [some (.iload_n 3, 929, 0, 0, 0), some (.iconst 2, 930, 0, 0, 0), some (.iadd, 931, 0, 0, 0), some (.iaload, 932, 0, 0, 0), some (.aload_n 0, 933, 0, 0, 0), some (.iload_n 3, 934, 0, 0, 0), some (.iconst 3, 935, 0, 0, 0), some (.iadd, 936, 0, 0, 0), some (.iaload, 937, 0, 0, 0), some (.invokevirtual 130, 940, 116, 4, 0), none, none, some (.if_icmp .eq 247, 943, 1187, 0, 0), none, none, some (.iconst 0, 944, 0, 0, 0)],
  [some (.ireturn, 945, 0, 1, 0), some (.aload_n 1, 946, 0, 0, 0), some (.aload_n 0, 947, 0, 0, 0), some (.iload_n 3, 948, 0, 0, 0), some (.iconst 1, 949, 0, 0, 0), some (.iadd, 950, 0, 0, 0), some (.iaload, 951, 0, 0, 0), some (.invokevirtual 131, 954, 80, 2, 0), none, none, some (.aload_n 2, 955, 0, 0, 0), some (.aload_n 0, 956, 0, 0, 0), some (.iload_n 3, 957, 0, 0, 0), some (.iconst 1, 958, 0, 0, 0), some (.iadd, 959, 0, 0, 0), some (.iaload, 960, 0, 0, 0)],
  [some (.invokevirtual 134, 963, 117, 2, 0), none, none, some (.if_icmp .eq 224, 966, 1187, 0, 0), none, none, some (.iconst 0, 967, 0, 0, 0), some (.ireturn, 968, 0, 1, 0), some (.aload_n 1, 969, 0, 0, 0), some (.aload_n 0, 970, 0, 0, 0), some (.iload_n 3, 971, 0, 0, 0), some (.iconst 1, 972, 0, 0, 0), some (.iadd, 973, 0, 0, 0), some (.iaload, 974, 0, 0, 0), some (.aload_n 0, 975, 0, 0, 0), some (.iload_n 3, 976, 0, 0, 0)],
  [some (.iconst 2, 977, 0, 0, 0), some (.iadd, 978, 0, 0, 0), some (.iaload, 979, 0, 0, 0), some (.aload_n 0, 980, 0, 0, 0), some (.iload_n 3, 981, 0, 0, 0), some (.iconst 3, 982, 0, 0, 0), some (.iadd, 983, 0, 0, 0), some (.iaload, 984, 0, 0, 0), some (.aload_n 0, 985, 0, 0, 0), some (.iload_n 3, 986, 0, 0, 0), some (.iconst 4, 987, 0, 0, 0), some (.iadd, 988, 0, 0, 0), some (.iaload, 989, 0, 0, 0), some (.invokevirtual 135, 992, 81, 5, 0), none, none],
  [some (.aload_n 2, 993, 0, 0, 0), some (.aload_n 0, 994, 0, 0, 0), some (.iload_n 3, 995, 0, 0, 0), some (.iconst 1, 996, 0, 0, 0), some (.iadd, 997, 0, 0, 0), some (.iaload, 998, 0, 0, 0), some (.aload_n 0, 999, 0, 0, 0), some (.iload_n 3, 1000, 0, 0, 0), some (.iconst 2, 1001, 0, 0, 0), some (.iadd, 1002, 0, 0, 0), some (.iaload, 1003, 0, 0, 0), some (.aload_n 0, 1004, 0, 0, 0), some (.iload_n 3, 1005, 0, 0, 0), some (.iconst 3, 1006, 0, 0, 0), some (.iadd, 1007, 0, 0, 0), some (.iaload, 1008, 0, 0, 0)],
  [some (.aload_n 0, 1009, 0, 0, 0), some (.iload_n 3, 1010, 0, 0, 0), some (.iconst 4, 1011, 0, 0, 0), some (.iadd, 1012, 0, 0, 0), some (.iaload, 1013, 0, 0, 0), some (.invokevirtual 139, 1016, 120, 5, 0), none, none, some (.if_icmp .eq 171, 1019, 1187, 0, 0), none, none, some (.iconst 0, 1020, 0, 0, 0), some (.ireturn, 1021, 0, 1, 0), some (.aload_n 1, 1022, 0, 0, 0), some (.aload_n 0, 1023, 0, 0, 0), some (.iload_n 3, 1024, 0, 0, 0)],
  [some (.iconst 1, 1025, 0, 0, 0), some (.iadd, 1026, 0, 0, 0), some (.iaload, 1027, 0, 0, 0), some (.aload_n 0, 1028, 0, 0, 0), some (.iload_n 3, 1029, 0, 0, 0), some (.iconst 2, 1030, 0, 0, 0), some (.iadd, 1031, 0, 0, 0), some (.iaload, 1032, 0, 0, 0), some (.aload_n 0, 1033, 0, 0, 0), some (.iload_n 3, 1034, 0, 0, 0), some (.iconst 3, 1035, 0, 0, 0), some (.iadd, 1036, 0, 0, 0), some (.iaload, 1037, 0, 0, 0), some (.invokevirtual 140, 1040, 82, 4, 0), none, none],
  [some (.aload_n 2, 1041, 0, 0, 0), some (.aload_n 0, 1042, 0, 0, 0), some (.iload_n 3, 1043, 0, 0, 0), some (.iconst 1, 1044, 0, 0, 0), some (.iadd, 1045, 0, 0, 0), some (.iaload, 1046, 0, 0, 0), some (.aload_n 0, 1047, 0, 0, 0), some (.iload_n 3, 1048, 0, 0, 0), some (.iconst 2, 1049, 0, 0, 0), some (.iadd, 1050, 0, 0, 0), some (.iaload, 1051, 0, 0, 0), some (.aload_n 0, 1052, 0, 0, 0), some (.iload_n 3, 1053, 0, 0, 0), some (.iconst 3, 1054, 0, 0, 0), some (.iadd, 1055, 0, 0, 0), some (.iaload, 1056, 0, 0, 0)],
  [some (.invokevirtual 143, 1059, 121, 4, 0), none, none, some (.if_icmp .eq 128, 1062, 1187, 0, 0), none, none, some (.iconst 0, 1063, 0, 0, 0), some (.ireturn, 1064, 0, 1, 0), some (.aload_n 1, 1065, 0, 0, 0), some (.aload_n 0, 1066, 0, 0, 0), some (.iload_n 3, 1067, 0, 0, 0), some (.iconst 1, 1068, 0, 0, 0), some (.iadd, 1069, 0, 0, 0), some (.iaload, 1070, 0, 0, 0), some (.aload_n 0, 1071, 0, 0, 0), some (.iload_n 3, 1072, 0, 0, 0)],
  [some (.iconst 2, 1073, 0, 0, 0), some (.iadd, 1074, 0, 0, 0), some (.iaload, 1075, 0, 0, 0), some (.aload_n 0, 1076, 0, 0, 0), some (.iload_n 3, 1077, 0, 0, 0), some (.iconst 3, 1078, 0, 0, 0), some (.iadd, 1079, 0, 0, 0), some (.iaload, 1080, 0, 0, 0), some (.aload_n 0, 1081, 0, 0, 0), some (.iload_n 3, 1082, 0, 0, 0), some (.iconst 4, 1083, 0, 0, 0), some (.iadd, 1084, 0, 0, 0), some (.iaload, 1085, 0, 0, 0), some (.aload_n 0, 1086, 0, 0, 0), some (.iload_n 3, 1087, 0, 0, 0), some (.iconst 5, 1088, 0, 0, 0)],
  [some (.iadd, 1089, 0, 0, 0), some (.iaload, 1090, 0, 0, 0), some (.invokevirtual 144, 1093, 83, 6, 0), none, none, some (.aload_n 2, 1094, 0, 0, 0), some (.aload_n 0, 1095, 0, 0, 0), some (.iload_n 3, 1096, 0, 0, 0), some (.iconst 1, 1097, 0, 0, 0), some (.iadd, 1098, 0, 0, 0), some (.iaload, 1099, 0, 0, 0), some (.aload_n 0, 1100, 0, 0, 0), some (.iload_n 3, 1101, 0, 0, 0), some (.iconst 2, 1102, 0, 0, 0), some (.iadd, 1103, 0, 0, 0), some (.iaload, 1104, 0, 0, 0)],
  [some (.aload_n 0, 1105, 0, 0, 0), some (.iload_n 3, 1106, 0, 0, 0), some (.iconst 3, 1107, 0, 0, 0), some (.iadd, 1108, 0, 0, 0), some (.iaload, 1109, 0, 0, 0), some (.aload_n 0, 1110, 0, 0, 0), some (.iload_n 3, 1111, 0, 0, 0), some (.iconst 4, 1112, 0, 0, 0), some (.iadd, 1113, 0, 0, 0), some (.iaload, 1114, 0, 0, 0), some (.aload_n 0, 1115, 0, 0, 0), some (.iload_n 3, 1116, 0, 0, 0), some (.iconst 5, 1117, 0, 0, 0), some (.iadd, 1118, 0, 0, 0), some (.iaload, 1119, 0, 0, 0), some (.invokevirtual 148, 1122, 122, 6, 0)],
  [none, none, some (.if_icmp .eq 65, 1125, 1187, 0, 0), none, none, some (.iconst 0, 1126, 0, 0, 0), some (.ireturn, 1127, 0, 1, 0), some (.aload_n 1, 1128, 0, 0, 0), some (.aload_n 0, 1129, 0, 0, 0), some (.iload_n 3, 1130, 0, 0, 0), some (.iconst 1, 1131, 0, 0, 0), some (.iadd, 1132, 0, 0, 0), some (.iaload, 1133, 0, 0, 0), some (.invokevirtual 149, 1136, 84, 2, 0), none, none],
  [some (.aload_n 2, 1137, 0, 0, 0), some (.aload_n 0, 1138, 0, 0, 0), some (.iload_n 3, 1139, 0, 0, 0), some (.iconst 1, 1140, 0, 0, 0), some (.iadd, 1141, 0, 0, 0), some (.iaload, 1142, 0, 0, 0), some (.invokevirtual 152, 1145, 191, 2, 0), none, none, some (.if_icmp .eq 42, 1148, 1187, 0, 0), none, none, some (.iconst 0, 1149, 0, 0, 0), some (.ireturn, 1150, 0, 1, 0), some (.aload_n 1, 1151, 0, 0, 0), some (.aload_n 0, 1152, 0, 0, 0)],
  [some (.iload_n 3, 1153, 0, 0, 0), some (.iconst 1, 1154, 0, 0, 0), some (.iadd, 1155, 0, 0, 0), some (.iaload, 1156, 0, 0, 0), some (.invokevirtual 153, 1159, 85, 2, 0), none, none, some (.aload_n 2, 1160, 0, 0, 0), some (.aload_n 0, 1161, 0, 0, 0), some (.iload_n 3, 1162, 0, 0, 0), some (.iconst 1, 1163, 0, 0, 0), some (.iadd, 1164, 0, 0, 0), some (.iaload, 1165, 0, 0, 0), some (.invokevirtual 156, 1168, 193, 2, 0), none, none],
  [some (.if_icmp .eq 19, 1171, 1187, 0, 0), none, none, some (.iconst 0, 1172, 0, 0, 0), some (.ireturn, 1173, 0, 1, 0), some (.aload_n 1, 1174, 0, 0, 0), some (.invokevirtual 157, 1177, 86, 1, 1), none, none, some (.aload_n 2, 1178, 0, 0, 0), some (.invokevirtual 161, 1181, 194, 1, 0), none, none, some (.lcmp, 1182, 0, 0, 0), some (.ifCond .eq 5, 1185, 1187, 0, 0), none],
  [none, some (.iconst 0, 1186, 0, 0, 0), some (.ireturn, 1187, 0, 1, 0), some (.iinc 3 6, 1190, 0, 0, 0), none, none, some (.goto (-1172), 1193, 18, 0, 0), none, none, some (.iconst 1, 1194, 0, 0, 0), some (.ireturn, 1195, 0, 1, 0)]]
def am_codes : List am_T := [T_X0_init, T_X0_fill, T_X0_takeIn, T_X0_movesUp, T_X0_worth, T_X0_loveBeside, T_X0_swap, T_X0_pewsTaken, T_X1_init, T_X1_add, T_X2_init, T_X2_open, T_X2_choice, T_X2_note, T_X2_settle, T_X2_isStable, T_X2_wouldLeave, T_X3_init, T_X3_find, T_X3_heed, T_X3_mayCome, T_X3_countWaysTo, T_X3_countWaysOn, T_X3_howMany, T_X3_placesOf, T_X3_surePairs, T_X3_canBeFirst, T_X4_init, T_X4_append, T_X4_clear, T_X4_understand, T_X4_findFault, T_X4_fits, T_X4_figure, T_X5_init, T_X5_between, T_X5_turn, T_X6_init, T_X6_seatWorth, T_X6_wide, T_X6_seatsBeside, T_X7_init, T_X7_isLost, T_X7_renew, T_X7_findingAt, T_X7_holds, T_X7_put, T_X8_init, T_X8_add, T_X8_chanceAbove, T_X8_chanceBelow, T_X9_init, T_X9_type, T_X9_wipe, T_X9_fault, T_X9_person, T_X9_waits, T_X9_rain, T_X9_set, T_X9_love, T_X9_read, T_X9_seat, T_X9_who, T_X9_has, T_X9_best, T_X9_rest, T_X9_change, T_X9_changes, T_X9_churches, T_X9_sat, T_X9_front, T_X9_forget, T_X9_came, T_X9_sure, T_X9_fair, T_X9_lot, T_X9_sunday, T_X9_late, T_X9_allLate, T_X9_sheet, T_X9_lose, T_X9_lay, T_X9_get, T_X9_copy, T_X9_write, T_X9_count, T_X9_digest, T_X9_digestPerson, T_X9_within, T_X9_isNumber, T_X9_isSheet, T_X9_isForm, T_X9_isThere, T_X9_finding, T_X9_dropAnswers, T_X9_minuteInside, T_X9_gather, T_X9_seatAll, T_X9_everybody, T_X9_wouldChange, T_X9_findRest, T_X9_waitByRow, T_X9_findChoosing, T_X9_addFact, T_X9_findOrders, T_X9_freeSeat, T_X9_lowestTerms, T_X9_commonDivisor, T_X10_init, T_X10_in, T_X10_no, T_X10_isTwo, T_X10_isSeven, T_X10_isIn, T_X10_met, T_X10_isSheet, T_X10_sheet, T_X10_lose, T_X10_lacks, T_X10_cut, T_X10_lay, T_X10_get, T_X10_copy, T_X10_type, T_X10_wipe, T_X10_here, T_X10_nobody, T_X10_figure, T_X10_readsPart, T_X10_reads, T_X10_fault, T_X10_isPerson, T_X10_least, T_X10_goesIn, T_X10_wet, T_X10_personOf, T_X10_person, T_X10_waits, T_X10_rain, T_X10_lowOf, T_X10_highOf, T_X10_set, T_X10_love, T_X10_read, T_X10_isOutside, T_X10_findSeats, T_X10_whole, T_X10_findAll, T_X10_amount, T_X10_worth, T_X10_hasNow, T_X10_seat, T_X10_whoOf, T_X10_who, T_X10_hasOf, T_X10_has, T_X10_bestOf, T_X10_best, T_X10_rests, T_X10_findRest, T_X10_restOf, T_X10_rest, T_X10_wouldChange, T_X10_change, T_X10_changesNow, T_X10_changes, T_X10_hasIn, T_X10_churchesOf, T_X10_churches, T_X10_tells, T_X10_sat, T_X10_front, T_X10_forget, T_X10_goesOn, T_X10_swaps, T_X10_isSo, T_X10_looks, T_X10_findOrders, T_X10_cameOf, T_X10_came, T_X10_sureNow, T_X10_sure, T_X10_part, T_X10_fairOf, T_X10_fair, T_X10_lotOf, T_X10_lot, T_X10_sunday, T_X10_late, T_X10_allLateOf, T_X10_allLate, T_X10_write, T_X10_pews, T_X10_count, T_X10_digest, T_J6_bitCount_0f7a4, T_L_law]
end
section
/-! calls, by depth -/
def am_code (k : Nat) : am_T := am_codes.getD k []
def am_d : Nat → am_C
  | 0 => fun _ _ _ _ _ _ => False
  | d + 1 => fun k args bc bs M Q => am_wp (am_d d) (am_code k) Q (0, am_pad (am_nl k) (am_ent args), [], bc, bs) M
theorem am_d_cm : ∀ d : Nat, am_cm (am_d d) (am_d d)
  | 0 => fun _ _ _ _ _ _ _ _ h => h
  | d + 1 => fun _ _ _ _ _ _ _ hQ h => am_wp_mono (am_d_cm d) hQ h
theorem am_d_mono (d : Nat) {k : Nat} {a : List Value} {c s : Nat} {M : am_M} {Q Q' : am_Q} (h : am_d d k a c s M Q) (hQ : ∀ r M, Q r M → Q' r M) : am_d d k a c s M Q' := am_d_cm d _ _ _ _ _ _ _ hQ h
/-- a method's body, from its entry on: its code is T, its locals L, up to a stop -/
theorem am_go {d k : Nat} {args : List Value} {bc bs : Nat} {M : am_M} {Q : am_Q} (stop : Nat → Bool) (n : Nat) (h : am_run (am_d d) (am_code k) Q stop (am_wp (am_d d) (am_code k) Q) n (0, am_pad (am_nl k) (am_ent args), [], bc, bs) M) : am_d (d + 1) k args bc bs M Q := am_wp_run (am_d_cm d) stop n h
theorem am_goT {d k : Nat} {args : List Value} {bc bs : Nat} {M : am_M} {Q : am_Q} (T : am_T) (L : List Value) (hT : am_code k = T) (hL : am_pad (am_nl k) (am_ent args) = L) (stop : Nat → Bool) (n : Nat) (h : am_run (am_d d) T Q stop (am_wp (am_d d) T Q) n (0, L, [], bc, bs) M) : am_d (d + 1) k args bc bs M Q := by
  subst hT; subst hL; exact am_wp_run (am_d_cm d) stop n h
-- the methods by number: name, bytes, answer
def am_ys : List MethodName := [yX0_init, yX0_fill, yX0_takeIn, yX0_movesUp, yX0_worth, yX0_loveBeside, yX0_swap, yX0_pewsTaken, yX1_init, yX1_add, yX2_init, yX2_open, yX2_choice, yX2_note, yX2_settle, yX2_isStable, yX2_wouldLeave, yX3_init, yX3_find, yX3_heed, yX3_mayCome, yX3_countWaysTo, yX3_countWaysOn, yX3_howMany, yX3_placesOf, yX3_surePairs, yX3_canBeFirst, yX4_init, yX4_append, yX4_clear, yX4_understand, yX4_findFault, yX4_fits, yX4_figure, yX5_init, yX5_between, yX5_turn, yX6_init, yX6_seatWorth, yX6_wide, yX6_seatsBeside, yX7_init, yX7_isLost, yX7_renew, yX7_findingAt, yX7_holds, yX7_put, yX8_init, yX8_add, yX8_chanceAbove, yX8_chanceBelow, yX9_init, yX9_type, yX9_wipe, yX9_fault, yX9_person, yX9_waits, yX9_rain, yX9_set, yX9_love, yX9_read, yX9_seat, yX9_who, yX9_has, yX9_best, yX9_rest, yX9_change, yX9_changes, yX9_churches, yX9_sat, yX9_front, yX9_forget, yX9_came, yX9_sure, yX9_fair, yX9_lot, yX9_sunday, yX9_late, yX9_allLate, yX9_sheet, yX9_lose, yX9_lay, yX9_get, yX9_copy, yX9_write, yX9_count, yX9_digest, yX9_digestPerson, yX9_within, yX9_isNumber, yX9_isSheet, yX9_isForm, yX9_isThere, yX9_finding, yX9_dropAnswers, yX9_minuteInside, yX9_gather, yX9_seatAll, yX9_everybody, yX9_wouldChange, yX9_findRest, yX9_waitByRow, yX9_findChoosing, yX9_addFact, yX9_findOrders, yX9_freeSeat, yX9_lowestTerms, yX9_commonDivisor, yX10_init, yX10_in, yX10_no, yX10_isTwo, yX10_isSeven, yX10_isIn, yX10_met, yX10_isSheet, yX10_sheet, yX10_lose, yX10_lacks, yX10_cut, yX10_lay, yX10_get, yX10_copy, yX10_type, yX10_wipe, yX10_here, yX10_nobody, yX10_figure, yX10_readsPart, yX10_reads, yX10_fault, yX10_isPerson, yX10_least, yX10_goesIn, yX10_wet, yX10_personOf, yX10_person, yX10_waits, yX10_rain, yX10_lowOf, yX10_highOf, yX10_set, yX10_love, yX10_read, yX10_isOutside, yX10_findSeats, yX10_whole, yX10_findAll, yX10_amount, yX10_worth, yX10_hasNow, yX10_seat, yX10_whoOf, yX10_who, yX10_hasOf, yX10_has, yX10_bestOf, yX10_best, yX10_rests, yX10_findRest, yX10_restOf, yX10_rest, yX10_wouldChange, yX10_change, yX10_changesNow, yX10_changes, yX10_hasIn, yX10_churchesOf, yX10_churches, yX10_tells, yX10_sat, yX10_front, yX10_forget, yX10_goesOn, yX10_swaps, yX10_isSo, yX10_looks, yX10_findOrders, yX10_cameOf, yX10_came, yX10_sureNow, yX10_sure, yX10_part, yX10_fairOf, yX10_fair, yX10_lotOf, yX10_lot, yX10_sunday, yX10_late, yX10_allLateOf, yX10_allLate, yX10_write, yX10_pews, yX10_count, yX10_digest, yJ6_bitCount_0f7a4, yL_law]
def am_bs : List ByteArray := [cX0_init, cX0_fill, cX0_takeIn, cX0_movesUp, cX0_worth, cX0_loveBeside, cX0_swap, cX0_pewsTaken, cX1_init, cX1_add, cX2_init, cX2_open, cX2_choice, cX2_note, cX2_settle, cX2_isStable, cX2_wouldLeave, cX3_init, cX3_find, cX3_heed, cX3_mayCome, cX3_countWaysTo, cX3_countWaysOn, cX3_howMany, cX3_placesOf, cX3_surePairs, cX3_canBeFirst, cX4_init, cX4_append, cX4_clear, cX4_understand, cX4_findFault, cX4_fits, cX4_figure, cX5_init, cX5_between, cX5_turn, cX6_init, cX6_seatWorth, cX6_wide, cX6_seatsBeside, cX7_init, cX7_isLost, cX7_renew, cX7_findingAt, cX7_holds, cX7_put, cX8_init, cX8_add, cX8_chanceAbove, cX8_chanceBelow, cX9_init, cX9_type, cX9_wipe, cX9_fault, cX9_person, cX9_waits, cX9_rain, cX9_set, cX9_love, cX9_read, cX9_seat, cX9_who, cX9_has, cX9_best, cX9_rest, cX9_change, cX9_changes, cX9_churches, cX9_sat, cX9_front, cX9_forget, cX9_came, cX9_sure, cX9_fair, cX9_lot, cX9_sunday, cX9_late, cX9_allLate, cX9_sheet, cX9_lose, cX9_lay, cX9_get, cX9_copy, cX9_write, cX9_count, cX9_digest, cX9_digestPerson, cX9_within, cX9_isNumber, cX9_isSheet, cX9_isForm, cX9_isThere, cX9_finding, cX9_dropAnswers, cX9_minuteInside, cX9_gather, cX9_seatAll, cX9_everybody, cX9_wouldChange, cX9_findRest, cX9_waitByRow, cX9_findChoosing, cX9_addFact, cX9_findOrders, cX9_freeSeat, cX9_lowestTerms, cX9_commonDivisor, cX10_init, cX10_in, cX10_no, cX10_isTwo, cX10_isSeven, cX10_isIn, cX10_met, cX10_isSheet, cX10_sheet, cX10_lose, cX10_lacks, cX10_cut, cX10_lay, cX10_get, cX10_copy, cX10_type, cX10_wipe, cX10_here, cX10_nobody, cX10_figure, cX10_readsPart, cX10_reads, cX10_fault, cX10_isPerson, cX10_least, cX10_goesIn, cX10_wet, cX10_personOf, cX10_person, cX10_waits, cX10_rain, cX10_lowOf, cX10_highOf, cX10_set, cX10_love, cX10_read, cX10_isOutside, cX10_findSeats, cX10_whole, cX10_findAll, cX10_amount, cX10_worth, cX10_hasNow, cX10_seat, cX10_whoOf, cX10_who, cX10_hasOf, cX10_has, cX10_bestOf, cX10_best, cX10_rests, cX10_findRest, cX10_restOf, cX10_rest, cX10_wouldChange, cX10_change, cX10_changesNow, cX10_changes, cX10_hasIn, cX10_churchesOf, cX10_churches, cX10_tells, cX10_sat, cX10_front, cX10_forget, cX10_goesOn, cX10_swaps, cX10_isSo, cX10_looks, cX10_findOrders, cX10_cameOf, cX10_came, cX10_sureNow, cX10_sure, cX10_part, cX10_fairOf, cX10_fair, cX10_lotOf, cX10_lot, cX10_sunday, cX10_late, cX10_allLateOf, cX10_allLate, cX10_write, cX10_pews, cX10_count, cX10_digest, cJ6_bitCount_0f7a4, cL_law]
def am_rets : List (Option FieldType) := [none, none, none, (some .boolean), (some .int), (some .int), none, (some .int), none, none, none, none, (some .int), none, none, (some .boolean), (some .boolean), none, none, (some .boolean), (some .boolean), none, none, (some .int), (some .int), (some .int), (some .boolean), none, none, none, none, (some .int), (some .boolean), (some .int), none, (some .int), none, none, (some .int), (some .int), (some .int), none, (some .boolean), none, (some .int), (some .boolean), none, none, none, (some .int), (some .int), none, (some .int), (some .int), (some .int), (some .int), (some .int), (some .int), (some .int), (some .int), (some .int), (some .int), (some .int), (some .int), (some .int), (some .int), (some .int), (some .int), (some .int), (some .int), (some .int), (some .int), (some .int), (some .int), (some .long), (some .int), (some .int), (some .long), (some .long), (some .int), (some .int), (some .int), (some .int), (some .int), (some .int), (some .int), (some .long), (some .long), (some .boolean), (some .boolean), (some .boolean), (some .boolean), (some .boolean), (some .int), none, (some .int), none, none, (some .int), (some .boolean), none, none, none, (some .int), none, (some .int), (some .long), (some .long), none, (some .boolean), (some .long), (some .boolean), (some .boolean), (some .boolean), (some .int), (some .boolean), (some .int), (some .int), (some .int), (some .int), (some .int), (some .int), (some .int), (some .int), (some .int), (some .int), (some .int), (some .int), (some .boolean), (some .int), (some .int), (some .boolean), (some .int), (some .int), (some .int), (some .int), (some .int), (some .int), (some .int), (some .int), (some .int), (some .int), (some .int), (some .int), (some .boolean), none, (some .int), none, (some .int), (some .int), (some .int), (some .int), (some .int), (some .int), (some .int), (some .int), (some .int), (some .int), (some .boolean), none, (some .int), (some .int), (some .boolean), (some .int), (some .int), (some .int), (some .int), (some .int), (some .int), (some .int), (some .int), (some .int), (some .int), (some .boolean), none, (some .boolean), none, none, (some .int), (some .int), (some .int), (some .int), (some .long), (some .long), (some .long), (some .int), (some .int), (some .int), (some .long), (some .long), (some .long), (some .int), (some .int), (some .int), (some .long), (some .int), (some .boolean)]
def am_y (k : Nat) : MethodName := am_ys.getD k yL_law
def am_b (k : Nat) : ByteArray := am_bs.getD k code
def am_ret (k : Nat) : Option FieldType := am_rets.getD k none
-- words on nest mates, by their places
def am_nest : List Cond := ([90, 124, 134, 138, 224, 248, 273, 292, 383, 620, 744] : List Nat).filterMap (fun i => lw_tbl[i]?)
end
section
/-! where things lie: cells 0 to 2 the static rows, 3 the script, 4 to 55 the class, 56 to 76 the reference, what is made later behind them -/
def lo_kt : List (List (Nat × Nat)) := [[(1, 6), (1, 6), (1, 6), (1, 0), (15, 0), (10, 0), (0, 40), (0, 7)],
  [(0, 7), (11, 0), (0, 61), (12, 0), (0, 6), (5, 7), (0, 7), (0, 7)],
  [(0, 7), (0, 7), (0, 7), (0, 7), (0, 7), (0, 7), (0, 7), (6, 0)],
  [(0, 7), (0, 7), (6, 0), (0, 7), (0, 7), (8, 0), (0, 7), (0, 0)],
  [(8, 0), (0, 7), (0, 0), (7, 0), (0, 8), (0, 8), (0, 8), (9, 0)],
  [(0, 128), (0, 128), (0, 7), (0, 7), (14, 0), (0, 7), (0, 7), (4, 4)],
  [(13, 0), (0, 60), (13, 0), (0, 60), (13, 0), (0, 60), (13, 0), (0, 60)],
  [(16, 0), (0, 4), (0, 4), (0, 240), (0, 60), (0, 40), (0, 7), (0, 7)],
  [(0, 7), (0, 60), (0, 6), (0, 49), (0, 7), (0, 7), (0, 24), (0, 7)],
  [(0, 7), (2, 49), (3, 7), (0, 7), (0, 7)]]
def lo_k2 (c : Nat) : Nat × Nat := match lo_kt[c / 8]? with
  | some r => match r[c % 8]? with
    | some x => x
    | none => (99, 0)
  | none => (99, 0)
/-- kinds and sizes: w3 is the script's length, g tells of what is made later -/
def lo_sh (w3 : Nat) (g : Nat → Nat × Nat) (c : Nat) : Nat × Nat := match Nat.blt c 77 with
  | true => match Nat.beq c 3 with
    | true => (1, w3)
    | false => lo_k2 c
  | false => g c
def lo_rt (r1 r2 : Nat) : List (List (List (Option Nat))) := [[[], [], [], [], [some 5, some 9, some 11, some 21, some 22, some 23, some 26, some 29, some 32, some 35, some 39, some 44, some 47], [some 6, some 7, some 8], [], []],
  [[], [some 10], [], [some 12, some 13], [], [some 14, some 15, some 16, some 17, some 18, some 19, some 20], [], []],
  [[], [], [], [], [], [], [], [some 5, some 9, some 11, some 24, some 25]],
  [[], [], [some 5, some 9, some 11, some 27, some 28], [], [], [none, none, some 30, none, some r1], [], []],
  [[none, none, some 33, none, some r2], [], [], [some 36, some 37, some 38], [], [], [], [some 40, some 41, some 42, some 43]],
  [[], [], [], [], [some 45, some 46], [], [], [some 48, some 50, some 52, some 54]],
  [[some 49], [], [some 51], [], [some 53], [], [some 55], []],
  [[some 57, some 58, some 59, some 60, none, some 61, none, none, none, some 62, some 63, some 64, some 65, some 66, some 67, some 68, some 69, none, none, none, some 70, some 71, some 72, some 73, some 74, none, none, none, some 75, some 76], [], [], [], [], [], [], []],
  [[], [], [], [], [], [], [], []],
  [[], [], [], [], []]]
/-- references: r1 and r2 are the rows of what each has, of REST and of CHURCHES -/
def lo_rho (r1 r2 : Nat) (c i : Nat) : Option Nat := match Nat.blt c 77 with
  | true => match (lo_rt r1 r2)[c / 8]? with
    | some r => match r[c % 8]? with
      | some x => match x[i]? with
        | some y => y
        | none => none
      | none => none
    | none => none
  | false => none
/-- the memory -/
abbrev lo_M (n w3 : Nat) (g : Nat → Nat × Nat) (σ : Nat → Nat → Int32) (τ : Nat → Nat → Int64) (r1 r2 : Nat) : am_M := (n, lo_sh w3 g, σ, τ, lo_rho r1 r2)
end
section
/-! what is told, in whole numbers: A holds numbers from 0 on, B may hold others
  A 0 0 bytes, A 0 1 facts, A 0 2 Sundays, A 0 3 the latest finding; A 1 the text; A 2 rain; A 3 settings; A 4 waiting;
  A 5, 6, 7 facts; A 8 told, A 9 late; A 11 sizes; A (20 + a) love of a; B 0 forms; B (1 + s) items -/
abbrev aN : Type := Nat → Nat → Nat
abbrev aZ : Type := Nat → Nat → Int
def fitc (b c : Nat) : Bool := match c with
  | 0 => Nat.ble 48 b && Nat.ble b 53
  | 1 => Nat.ble 48 b && Nat.ble b 57
  | 2 => Nat.ble 48 b && Nat.ble b 54
  | _ => Nat.beq b 59
/-- the first place with which the text cannot go on, from i on, k bytes being left -/
def flz (tx : Nat → Nat) (ln : Nat) : Nat → Nat → Int
  | 0, _ => if ln = 0 ∨ ln % 4 = 3 then -1 else (ln : Int)
  | k + 1, i => if 28 ≤ i ∨ fitc (tx i) (i % 4) = false then (i : Int) else flz tx ln k (i + 1)
def flt (A : aN) : Int := flz (A 1) (A 0 0) (A 0 0) 0
def cnt (A : aN) : Nat := if flt A = -1 then (A 0 0 + 1) / 4 else 0
def mn (A : aN) (p : Nat) : Nat := 10 * (A 1 (4 * p) - 48) + (A 1 (4 * p + 1) - 48)
def wsh (A : aN) (p : Nat) : Nat := A 1 (4 * p + 2) - 48
/-- rain ahead of a minute -/
def prz (rn : Nat → Nat) : Nat → Nat
  | 0 => 0
  | m + 1 => prz rn m + rn m
/-- when one goes in who waits w minutes -/
def gin (A : aN) (p w : Nat) : Nat := min 59 (mn A p + w)
def WF (A : aN) (B : aZ) : Prop := A 0 0 ≤ 40 ∧ (∀ i, A 1 i ≤ 255) ∧ (∀ j, A 2 j ≤ 1) ∧ (A 3 0 ≤ 60 ∧ A 3 1 ≤ 1 ∧ (1 ≤ A 3 2 ∧ A 3 2 ≤ 4) ∧ A 3 3 ≤ 9 ∧ A 3 4 ≤ 9 ∧ 1 ≤ A 3 5 ∧ A 3 5 ≤ 15) ∧ (∀ p, A 4 p ≤ 59) ∧ (∀ a b, A (20 + a) b ≤ 20) ∧ (∀ a, A (20 + a) a = 0) ∧ A 0 1 ≤ 8 ∧ (∀ f, A 5 f ≤ 1 ∧ A 6 f < 7 ∧ A 7 f < 7) ∧ A 0 2 ≤ 60 ∧ (∀ p, A 9 p ≤ A 8 p ∧ A 8 p ≤ A 0 2) ∧ A 8 0 + A 8 1 + A 8 2 + A 8 3 + A 8 4 + A 8 5 + A 8 6 = A 0 2 ∧ (∀ s, A 11 s ≤ 60) ∧ (∀ s, -1 ≤ B 0 s ∧ B 0 s ≤ 2) ∧ (∀ s i, zr (B (1 + s) i)) ∧ A 0 3 ≤ 5
/-- the first fault is -1, or a place -/
theorem flz_ge {tx : Nat → Nat} {ln : Nat} : ∀ (k i : Nat), i + k = ln → flz tx ln k i = -1 ∨ ((i : Int) ≤ flz tx ln k i ∧ flz tx ln k i ≤ ln)
  | 0, i, h => by
    unfold flz
    split
    · exact Or.inl rfl
    · right; omega
  | k + 1, i, h => by
    unfold flz
    split
    · right; omega
    · rcases flz_ge (tx := tx) (ln := ln) k (i + 1) (by omega) with h1 | h1
      · exact Or.inl h1
      · right; omega
theorem flz_ok {tx : Nat → Nat} {ln : Nat} : ∀ (k i : Nat), i + k = ln → flz tx ln k i = -1 → (∀ j, i ≤ j → j < ln → j < 28 ∧ fitc (tx j) (j % 4) = true) ∧ (ln = 0 ∨ ln % 4 = 3)
  | 0, i, h, e => by
    unfold flz at e
    split at e
    · next q => exact ⟨fun j h1 h2 => by omega, q⟩
    · omega
  | k + 1, i, h, e => by
    unfold flz at e
    split at e
    · omega
    · next q =>
      obtain ⟨h1, h2⟩ := flz_ok (tx := tx) (ln := ln) k (i + 1) (by omega) e
      refine ⟨fun j j1 j2 => ?_, h2⟩
      by_cases hj : j = i
      · subst hj
        refine ⟨by omega, ?_⟩
        cases hf : fitc (tx j) (j % 4) with
        | true => rfl
        | false => exact absurd (Or.inr hf) q
      · exact h1 j (by omega) j2
theorem flt_ok {A : aN} (h : flt A = -1) : (∀ j, j < A 0 0 → j < 28 ∧ fitc (A 1 j) (j % 4) = true) ∧ (A 0 0 = 0 ∨ A 0 0 % 4 = 3) := by
  obtain ⟨h1, h2⟩ := flz_ok _ 0 (by omega) h
  exact ⟨fun j hj => h1 j (Nat.zero_le _) hj, h2⟩
theorem flt_rng {A : aN} (h : A 0 0 ≤ 40) : -1 ≤ flt A ∧ flt A ≤ 40 := by
  rcases flz_ge (tx := A 1) (ln := A 0 0) (A 0 0) 0 (by omega) with h1 | h1
  · unfold flt; omega
  · unfold flt; omega
theorem cnt_le (A : aN) : cnt A ≤ 7 := by
  unfold cnt
  split
  · next h =>
    obtain ⟨h1, h2⟩ := flt_ok h
    have : A 0 0 ≤ 28 := by
      rcases Nat.lt_or_ge 28 (A 0 0) with q | q
      · have := (h1 28 q).1
        omega
      · exact q
    omega
  · omega
theorem cnt_at {A : aN} {p : Nat} (h : p < cnt A) : flt A = -1 ∧ 4 * p + 2 < A 0 0 := by
  unfold cnt at h
  split at h
  · next e =>
    obtain ⟨h1, h2⟩ := flt_ok e
    exact ⟨e, by omega⟩
  · omega
theorem mn_lt {A : aN} {p : Nat} (h : p < cnt A) : mn A p ≤ 59 := by
  obtain ⟨e, hl⟩ := cnt_at h
  obtain ⟨h1, -⟩ := flt_ok e
  have a0 := (h1 (4 * p) (by omega)).2
  have a1 := (h1 (4 * p + 1) (by omega)).2
  rw [show 4 * p % 4 = 0 by omega] at a0
  rw [show (4 * p + 1) % 4 = 1 by omega] at a1
  unfold fitc at a0 a1
  simp only [Bool.and_eq_true] at a0 a1
  have b0 := Nat.le_of_ble_eq_true a0.2
  have b1 := Nat.le_of_ble_eq_true a1.2
  unfold mn
  omega
theorem wsh_lt {A : aN} {p : Nat} (h : p < cnt A) : wsh A p ≤ 6 := by
  obtain ⟨e, hl⟩ := cnt_at h
  obtain ⟨h1, -⟩ := flt_ok e
  have a0 := (h1 (4 * p + 2) (by omega)).2
  rw [show (4 * p + 2) % 4 = 2 by omega] at a0
  unfold fitc at a0
  simp only [Bool.and_eq_true] at a0
  have b0 := Nat.le_of_ble_eq_true a0.2
  unfold wsh
  omega
/-! the class's memory holds what is told -/
def ixP (A : aN) (σ : Nat → Nat → Int32) : Prop := σ 5 3 = Int32.ofInt (A 0 0 : Int) ∧ (∀ i, i < 40 → σ 6 i = Int32.ofInt (A 1 i : Int)) ∧ σ 5 4 = Int32.ofInt (cnt A : Int) ∧ σ 5 5 = Int32.ofInt (flt A) ∧ ∀ p, p < cnt A → σ 7 p = Int32.ofInt (mn A p : Int) ∧ σ 8 p = Int32.ofInt (wsh A p : Int)
def ixR (A : aN) (σ : Nat → Nat → Int32) : Prop := ∀ m, m < 61 → σ 10 m = Int32.ofInt (prz (A 2) m : Int)
def ixS (A : aN) (σ : Nat → Nat → Int32) : Prop := ∀ i, i < 6 → σ 12 i = Int32.ofInt (A 3 i : Int)
def ixL (A : aN) (σ : Nat → Nat → Int32) : Prop := ∀ a, a < 7 → ∀ b, b < 7 → σ (14 + a) b = Int32.ofInt (A (20 + a) b : Int)
def ixW (A : aN) (σ : Nat → Nat → Int32) : Prop := ∀ p, p < 7 → σ 21 p = Int32.ofInt (A 4 p : Int)
def ixF (A : aN) (σ : Nat → Nat → Int32) : Prop := σ 35 3 = Int32.ofInt (A 0 1 : Int) ∧ ∀ f, f < A 0 1 → σ 36 f = Int32.ofInt (A 5 f : Int) ∧ σ 37 f = Int32.ofInt (A 6 f : Int) ∧ σ 38 f = Int32.ofInt (A 7 f : Int)
def ixU (A : aN) (σ : Nat → Nat → Int32) : Prop := σ 44 2 = Int32.ofInt (A 0 2 : Int) ∧ ∀ p, p < 7 → σ 45 p = Int32.ofInt (A 8 p : Int) ∧ σ 46 p = Int32.ofInt (A 9 p : Int)
def ixH (A : aN) (B : aZ) (σ : Nat → Nat → Int32) : Prop := ∀ s, s < 4 → σ (48 + 2 * s) 1 = Int32.ofInt (B 0 s) ∧ σ (48 + 2 * s) 2 = Int32.ofInt (A 11 s : Int) ∧ ∀ i, i < A 11 s → σ (49 + 2 * s) i = Int32.ofInt (B (1 + s) i)
def IX (A : aN) (B : aZ) (σ : Nat → Nat → Int32) : Prop := ixP A σ ∧ ixR A σ ∧ ixS A σ ∧ ixL A σ ∧ ixW A σ ∧ ixF A σ ∧ ixU A σ ∧ ixH A B σ ∧ σ 4 13 = Int32.ofInt (A 0 3 : Int)
/-- rows that hold nothing told: goingIn, the churches, the games, the orders -/
def scr (c : Nat) : Prop := (22 ≤ c ∧ c ≤ 34) ∨ (39 ≤ c ∧ c ≤ 43) ∨ 56 ≤ c
theorem IX_fr {A : aN} {B : aZ} {σ σ' : Nat → Nat → Int32} (h : IX A B σ) (hf : ∀ c, c ≠ 4 → ¬ scr c → σ' c = σ c) (h4 : σ' 4 13 = σ 4 13) : IX A B σ' := by
  obtain ⟨⟨p1, p2, p3, p4, p5⟩, hR, hS, hL, hW, ⟨f1, f2⟩, ⟨u1, u2⟩, hH, hl⟩ := h
  have e : ∀ c, c < 56 → c ≠ 4 → ¬ (22 ≤ c ∧ c ≤ 34) → ¬ (39 ≤ c ∧ c ≤ 43) → σ' c = σ c := fun c h1 h2 h3 h5 => hf c h2 (fun q => by rcases q with q | q | q <;> omega)
  refine ⟨⟨?_, ?_, ?_, ?_, ?_⟩, ?_, ?_, ?_, ?_, ⟨?_, ?_⟩, ⟨?_, ?_⟩, ?_, by rw [h4]; exact hl⟩
  · rw [e 5 (by omega) (by omega) (by omega) (by omega)]; exact p1
  · rw [e 6 (by omega) (by omega) (by omega) (by omega)]; exact p2
  · rw [e 5 (by omega) (by omega) (by omega) (by omega)]; exact p3
  · rw [e 5 (by omega) (by omega) (by omega) (by omega)]; exact p4
  · rw [e 7 (by omega) (by omega) (by omega) (by omega), e 8 (by omega) (by omega) (by omega) (by omega)]; exact p5
  · unfold ixR; rw [e 10 (by omega) (by omega) (by omega) (by omega)]; exact hR
  · unfold ixS; rw [e 12 (by omega) (by omega) (by omega) (by omega)]; exact hS
  · intro a ha; rw [e (14 + a) (by omega) (by omega) (by omega) (by omega)]; exact hL a ha
  · unfold ixW; rw [e 21 (by omega) (by omega) (by omega) (by omega)]; exact hW
  · rw [e 35 (by omega) (by omega) (by omega) (by omega)]; exact f1
  · rw [e 36 (by omega) (by omega) (by omega) (by omega), e 37 (by omega) (by omega) (by omega) (by omega), e 38 (by omega) (by omega) (by omega) (by omega)]; exact f2
  · rw [e 44 (by omega) (by omega) (by omega) (by omega)]; exact u1
  · rw [e 45 (by omega) (by omega) (by omega) (by omega), e 46 (by omega) (by omega) (by omega) (by omega)]; exact u2
  · intro s hs; rw [e (48 + 2 * s) (by omega) (by omega) (by omega) (by omega), e (49 + 2 * s) (by omega) (by omega) (by omega) (by omega)]; exact hH s hs
end
section
set_option maxRecDepth 100000 in
theorem s_within (d : Nat) (v lo hi : Int32) (M : am_M) (Q : am_Q) (h : Q (some (.int (if lo ≤ v ∧ v ≤ hi then 1 else 0))) M) : am_d (d + 1) 88 [.int v, .int lo, .int hi] 0 0 M Q := by
  refine am_goT T_X9_within [.int v, .int lo, .int hi] rfl rfl (fun _ => false) 30 ?_
  refine And.intro (fun c1 => And.intro (Or.inl rfl) ?_) (fun c1 => And.intro (fun c2 => And.intro (Or.inl rfl) ?_) (fun c2 => And.intro (Or.inr rfl) ?_))
  · rw [if_neg (fun q => Int32.not_le.mpr c1 q.1)] at h
    exact h
  · rw [if_neg (fun q => Int32.not_le.mpr c2 q.2)] at h
    exact h
  · rw [if_pos ⟨Int32.not_lt.mp c1, Int32.not_lt.mp c2⟩] at h
    exact h
end
section
/-! Church -/
/-- where the new one goes: from the last sitter on, as long as each moves up -/
def insL (mv : Nat → Bool) (p : Nat) : List Nat → List Nat → List Nat
  | [], L2 => p :: L2
  | q :: R, L2 => if mv q then insL mv p R (q :: L2) else (q :: R).reverse ++ p :: L2
def mvs (lw : Int) (gq gp : Int) : Bool := if lw = 0 then decide (gq > gp) else decide (gq ≤ gp)
set_option maxRecDepth 100000 in
theorem s_movesUp (d : Nat) {lw a b : Int} (hl : zr lw) (ha : zr a) (hb : zr b) (M : am_M) (Q : am_Q) (h : Q (some (.int (if mvs lw a b then 1 else 0))) M) : am_d (d + 1) 3 [.int (Int32.ofInt a), .int (Int32.ofInt b), .int (Int32.ofInt lw)] 0 0 M Q := by
  refine am_goT T_X0_movesUp [.int (Int32.ofInt a), .int (Int32.ofInt b), .int (Int32.ofInt lw)] rfl rfl (fun _ => false) 30 ?_
  refine And.intro (fun c1 => And.intro (fun c2 => And.intro (Or.inl rfl) ?_) (fun c2 => And.intro (Or.inr rfl) ?_)) (fun c1 => And.intro (fun c2 => And.intro (Or.inl rfl) ?_) (fun c2 => And.intro (Or.inr rfl) ?_))
  · rw [zeq0 hl] at c1
    rw [zle ha hb] at c2
    rw [if_neg (by unfold mvs; rw [if_pos c1]; simp; exact c2)] at h
    exact h
  · rw [zeq0 hl] at c1
    rw [zle ha hb] at c2
    rw [if_pos (by unfold mvs; rw [if_pos c1]; simp; omega)] at h
    exact h
  · rw [zeq0 hl] at c1
    rw [zlt hb ha] at c2
    rw [if_neg (by unfold mvs; rw [if_neg c1]; simp; exact c2)] at h
    exact h
  · rw [zeq0 hl] at c1
    rw [zlt hb ha] at c2
    rw [if_pos (by unfold mvs; rw [if_neg c1]; simp; omega)] at h
    exact h
/-- sitters hold a list -/
def hol (σ : Nat → Nat → Int32) (c i0 : Nat) (L : List Nat) : Prop := ∀ (i q : Nat), L[i]? = some q → σ c (i0 + i) = Int32.ofInt (q : Int)
theorem hol_app {σ : Nat → Nat → Int32} {c i0 : Nat} {L1 L2 : List Nat} (h1 : hol σ c i0 L1) (h2 : hol σ c (i0 + L1.length) L2) : hol σ c i0 (L1 ++ L2) := by
  intro i q h
  by_cases hi : i < L1.length
  · rw [List.getElem?_append_left hi] at h
    exact h1 i q h
  · rw [List.getElem?_append_right (by omega)] at h
    have := h2 _ q h
    rw [show i0 + L1.length + (i - L1.length) = i0 + i by omega] at this
    exact this
theorem hol_left {σ : Nat → Nat → Int32} {c i0 : Nat} {L1 L2 : List Nat} (h : hol σ c i0 (L1 ++ L2)) : hol σ c i0 L1 := by
  intro i q hq
  exact h i q (by rw [List.getElem?_append_left (List.getElem?_eq_some_iff.mp hq).1]; exact hq)
theorem hol_off {σ σ' : Nat → Nat → Int32} {c i0 : Nat} {L : List Nat} (h : hol σ c i0 L) (he : ∀ i, i0 ≤ i → i < i0 + L.length → σ' c i = σ c i) : hol σ' c i0 L := by
  intro i q hq
  have hl := (List.getElem?_eq_some_iff.mp hq).1
  rw [he _ (by omega) (by omega)]
  exact h i q hq
theorem hol_cons {σ : Nat → Nat → Int32} {c i0 q : Nat} {L : List Nat} (h1 : σ c i0 = Int32.ofInt (q : Int)) (h2 : hol σ c (i0 + 1) L) : hol σ c i0 (q :: L) := by
  intro i p hp
  cases i with
  | zero => cases hp; exact h1
  | succ i =>
    have := h2 i p hp
    rw [show i0 + 1 + i = i0 + (i + 1) by omega] at this
    exact this

/-- who sits, from SEAT 0 on, when people 0 .. p-1 have gone in -/
def fL (lw bell : Int) (gs : Nat → Int) (mem : Nat → Bool) : Nat → List Nat
  | 0 => []
  | p + 1 => if mem p = true ∧ gs p < bell then insL (fun q => mvs lw (gs q) (gs p)) p (fL lw bell gs mem p).reverse [] else fL lw bell gs mem p
theorem insL_mem {mv : Nat → Bool} {p x : Nat} : ∀ (R L2 : List Nat), x ∈ insL mv p R L2 ↔ x = p ∨ x ∈ R ∨ x ∈ L2
  | [], L2 => by simp [insL]
  | q :: R, L2 => by
    unfold insL
    split
    · rw [insL_mem R (q :: L2)]
      simp only [List.mem_cons]
      constructor
      · rintro (h | h | h | h) <;> simp [h]
      · rintro (h | (h | h) | h) <;> simp [h]
    · simp only [List.mem_append, List.mem_reverse, List.mem_cons]
      constructor
      · rintro ((h | h) | h | h) <;> simp [h]
      · rintro (h | (h | h) | h) <;> simp [h]
theorem insL_len {mv : Nat → Bool} {p : Nat} : ∀ (R L2 : List Nat), (insL mv p R L2).length = R.length + L2.length + 1
  | [], L2 => by simp [insL]
  | q :: R, L2 => by
    unfold insL
    split
    · rw [insL_len R (q :: L2)]
      simp
      omega
    · simp
      omega
theorem fL_lt {lw bell : Int} {gs : Nat → Int} {mem : Nat → Bool} : ∀ (p q : Nat), q ∈ fL lw bell gs mem p → q < p
  | 0, q, h => by simp [fL] at h
  | p + 1, q, h => by
    unfold fL at h
    split at h
    · rw [insL_mem] at h
      rcases h with h | h | h
      · omega
      · have := fL_lt p q (List.mem_reverse.mp h)
        omega
      · simp at h
    · have := fL_lt p q h
      omega
theorem fL_len {lw bell : Int} {gs : Nat → Int} {mem : Nat → Bool} : ∀ (p : Nat), (fL lw bell gs mem p).length ≤ p
  | 0 => by simp [fL]
  | p + 1 => by
    have ih := fL_len (lw := lw) (bell := bell) (gs := gs) (mem := mem) p
    unfold fL
    split
    · rw [insL_len]
      simp
      exact ih
    · omega
/-- seats by the sitters from j on -/
def asg (L : List Nat) : Nat → Nat → (Nat → Int32) → Nat → Int32
  | _, 0, f, q => f q
  | j, k + 1, f, q => match L[j]? with
    | some x => asg L (j + 1) k (fun q => if q = x then Int32.ofInt (j : Int) else f q) q
    | none => f q
theorem asg_succ {L : List Nat} {j k x : Nat} {f : Nat → Int32} {q : Nat} (h : L[j]? = some x) : asg L j (k + 1) f q = asg L (j + 1) k (fun q => if q = x then Int32.ofInt (j : Int) else f q) q := by
  show (match L[j]? with | some x => asg L (j + 1) k (fun q => if q = x then Int32.ofInt (j : Int) else f q) q | none => f q) = _
  rw [h]
/-- the last place of q in L, else NONE -/
def lastZ (q : Nat) : List Nat → Int → Int → Int
  | [], _, r => r
  | x :: L, j, r => lastZ q L (j + 1) (if q = x then j else r)
def seatZ (L : List Nat) (q : Nat) : Int := lastZ q L 0 (-1)
theorem asg_last {q : Nat} : ∀ (k j : Nat) (L1 L2 : List Nat) (f : Nat → Int32) (r : Int), L1.length = j → L2.length = k → f q = Int32.ofInt r → asg (L1 ++ L2) j k f q = Int32.ofInt (lastZ q L2 (j : Int) r)
  | 0, j, L1, [], f, r, _, _, h => h
  | k + 1, j, L1, x :: L2, f, r, h1, h2, h => by
    have hx : (L1 ++ x :: L2)[j]? = some x := by
      rw [List.getElem?_append_right (by omega)]
      simp [h1]
    rw [asg_succ hx, show L1 ++ x :: L2 = (L1 ++ [x]) ++ L2 by simp]
    have := asg_last (q := q) k (j + 1) (L1 ++ [x]) L2 (fun q' => if q' = x then Int32.ofInt (j : Int) else f q') (if q = x then (j : Int) else r) (by simp; omega) (by simpa using h2) (by
      show (if q = x then Int32.ofInt (j : Int) else f q) = _
      split
      · rfl
      · exact h)
    rw [this]
    rfl
  | 0, _, _, _ :: _, _, _, _, h2, _ => by simp at h2
  | _ + 1, _, _, [], _, _, _, h2, _ => by simp at h2
theorem asg_seatZ {f : Nat → Int32} (L : List Nat) (q : Nat) (h : f q = Int32.ofInt (-1)) : asg L 0 L.length f q = Int32.ofInt (seatZ L q) := asg_last L.length 0 [] L f (-1) rfl rfl h
set_option maxHeartbeats 1000000 in
set_option maxRecDepth 100000 in
theorem s_takeIn_loop23 (d : Nat) {n w3 : Nat} {g : Nat → Nat × Nat} {τ : Nat → Nat → Int64} {r1 r2 : Nat} (Q : am_Q) {p : Nat} {lw : Int} {gs : Nat → Int} (hp : p < 7) (hlw : zr lw) (hgs : ∀ q, q < 7 → zr (gs q)) : ∀ (R L2 : List Nat) (σ : Nat → Nat → Int32), (∀ q ∈ R, q < 7) → R.length + L2.length < 7 → (∀ q, q < 7 → σ 22 q = Int32.ofInt (gs q)) → hol σ 25 0 R.reverse → hol σ 25 (R.length + 1) L2 →
    (∀ σ' : Nat → Nat → Int32, (∀ c, c ≠ 23 → c ≠ 25 → σ' c = σ c) → σ' 23 5 = σ 23 5 + Int32.ofInt 1 → (∀ i, i ≠ 5 → σ' 23 i = σ 23 i) → hol σ' 25 0 (insL (fun q => mvs lw (gs q) (gs p)) p R L2) → Q none (lo_M n w3 g σ' τ r1 r2)) →
    am_wp (am_d (d + 1)) T_X0_takeIn Q (6, [.ref 23, .int (Int32.ofInt (p : Int)), .ref 22, .int (Int32.ofInt lw), .int (Int32.ofInt (R.length : Int))], [], 0, 0) (lo_M n w3 g σ τ r1 r2) := by
  intro R
  induction R with
  | nil =>
    intro L2 σ hR hl hg h1 h2 h
    refine am_wp_go (am_d_cm _) (fun pc => Nat.beq pc 6) 60 ?_
    refine And.intro (fun c1 => ?_) (fun c1 => absurd (by rw [zle0 (by unfold zr; simp)]; simp) c1)
    refine ixi 0 7 (by omega) ?_
    refine h (am_u (am_u σ 25 0 (Int32.ofInt p)) 23 5 (σ 23 5 + Int32.ofInt 1)) ?_ ?_ ?_ ?_
    · intro c hc1 hc2
      rw [am_u_ne hc1, am_u_ne hc2]
    · rfl
    · intro i hi
      rw [am_u_at, if_neg hi]
      rfl
    · refine hol_cons rfl ?_
      refine hol_off h2 (fun i hi hi2 => ?_)
      have hi : 1 ≤ i := hi
      show (if i = 0 then _ else _) = _
      rw [if_neg (by omega)]
  | cons q R ih =>
    intro L2 σ hR hl hg h1 h2 h
    have hq7 : q < 7 := hR q List.mem_cons_self
    have hlen : (q :: R).length = R.length + 1 := rfl
    have hq : σ 25 R.length = Int32.ofInt (q : Int) := by
      have := h1 R.length q (by rw [List.reverse_cons, List.getElem?_append_right (by simp)]; simp)
      rw [Nat.zero_add] at this
      exact this
    refine am_wp_go (am_d_cm _) (fun pc => Nat.beq pc 6) 60 ?_
    refine And.intro (fun c1 => absurd c1 (by rw [zle0 (by unfold zr; simp; omega)]; simp)) (fun c1 => ?_)
    refine ixi R.length 7 (by omega) ?_ (by rw [zsub, hlen]; congr 1; omega)
    refine ixi q 7 (by omega) ?_
    refine ixi p 7 (by omega) ?_
    show am_d (d + 1) 3 [.int (σ 22 q), .int (σ 22 p), .int (Int32.ofInt lw)] 0 0 _ _
    rw [hg q hq7, hg p hp]
    refine s_movesUp d hlw (hgs q hq7) (hgs p hp) _ _ ?_
    by_cases hmv : mvs lw (gs q) (gs p) = true
    · rw [if_pos hmv]
      refine And.intro (fun c2 => absurd c2 (by decide)) (fun c2 => ?_)
      refine ixi R.length 7 (by omega) ?_ (by rw [zsub, hlen]; congr 1; omega)
      refine ixi (R.length + 1) 7 (by omega) ?_
      have hs : (Int32.ofInt ((q :: R).length : Int) + Int32.ofInt (-1)) = Int32.ofInt (R.length : Int) := by rw [zadd, hlen]; congr 1; omega
      show am_wp _ _ _ (6, [.ref 23, .int (Int32.ofInt (p : Int)), .ref 22, .int (Int32.ofInt lw), .int (Int32.ofInt ((q :: R).length : Int) + Int32.ofInt (-1))], [], 0, 0) (lo_M n w3 g (am_u σ 25 (R.length + 1) (σ 25 R.length)) τ r1 r2)
      rw [hs]
      refine ih (q :: L2) _ (fun q hq => hR q (List.mem_cons_of_mem _ hq)) (by rw [hlen] at hl; simp; omega) (fun q hq => hg q hq) ?_ ?_ (fun σ' k1 k2 k3 k4 => h σ' (fun c e1 e2 => ?_) k2 (fun i hi => k3 i hi) ?_)
      · refine hol_off (hol_left (L2 := [q]) (by rw [← List.reverse_cons]; exact h1)) (fun i _ hi => ?_)
        rw [List.length_reverse] at hi
        show (if i = R.length + 1 then _ else _) = _
        rw [if_neg (by omega)]
      · refine hol_cons ?_ (hol_off h2 (fun i hi _ => ?_))
        · show (if R.length + 1 = R.length + 1 then _ else _) = _
          rw [if_pos rfl]
          exact hq
        · have hi : R.length + 1 + 1 ≤ i := hi
          show (if i = R.length + 1 then _ else _) = _
          rw [if_neg (by omega)]
      · rw [k1 c e1 e2, am_u_ne e2]
      · unfold insL
        rw [if_pos hmv]
        exact k4
    · rw [if_neg hmv]
      refine And.intro (fun c2 => ?_) (fun c2 => absurd rfl c2)
      refine ixi (R.length + 1) 7 (by omega) ?_
      refine h (am_u (am_u σ 25 (R.length + 1) (Int32.ofInt p)) 23 5 (σ 23 5 + Int32.ofInt 1)) ?_ ?_ ?_ ?_
      · intro c hc1 hc2
        rw [am_u_ne hc1, am_u_ne hc2]
      · rfl
      · intro i hi
        rw [am_u_at, if_neg hi]
        rfl
      · unfold insL
        rw [if_neg hmv]
        refine hol_app (hol_off h1 (fun i _ hi => ?_)) ?_
        · rw [List.length_reverse, hlen] at hi
          show (if i = R.length + 1 then _ else _) = _
          rw [if_neg (by omega)]
        · rw [List.length_reverse, Nat.zero_add]
          refine hol_cons ?_ (hol_off h2 (fun i hi _ => ?_))
          · show (if R.length + 1 = R.length + 1 then _ else _) = _
            rw [if_pos rfl]
          · rw [hlen] at hi
            show (if i = R.length + 1 then _ else _) = _
            rw [if_neg (by omega)]

set_option maxRecDepth 100000 in
theorem s_takeIn23 (d : Nat) {n w3 : Nat} {g : Nat → Nat × Nat} {τ : Nat → Nat → Int64} {r1 r2 : Nat} (Q : am_Q) {p : Nat} {lw : Int} {gs : Nat → Int} (hp : p < 7) (hlw : zr lw) (hgs : ∀ q, q < 7 → zr (gs q)) (L : List Nat) (σ : Nat → Nat → Int32) (hL : ∀ q ∈ L, q < 7) (hl : L.length < 7) (hg : ∀ q, q < 7 → σ 22 q = Int32.ofInt (gs q)) (ht : σ 23 5 = Int32.ofInt (L.length : Int)) (h1 : hol σ 25 0 L)
    (h : ∀ σ' : Nat → Nat → Int32, (∀ c, c ≠ 23 → c ≠ 25 → σ' c = σ c) → σ' 23 5 = Int32.ofInt ((L.length + 1 : Nat) : Int) → (∀ i, i ≠ 5 → σ' 23 i = σ 23 i) → hol σ' 25 0 (insL (fun q => mvs lw (gs q) (gs p)) p L.reverse []) → Q none (lo_M n w3 g σ' τ r1 r2)) :
    am_d (d + 2) 2 [.ref 23, .int (Int32.ofInt (p : Int)), .ref 22, .int (Int32.ofInt lw)] 0 0 (lo_M n w3 g σ τ r1 r2) Q := by
  refine am_goT T_X0_takeIn [.ref 23, .int (Int32.ofInt (p : Int)), .ref 22, .int (Int32.ofInt lw), .null] rfl rfl (fun pc => Nat.beq pc 6) 30 ?_
  show am_wp _ _ _ (6, [.ref 23, .int (Int32.ofInt (p : Int)), .ref 22, .int (Int32.ofInt lw), .int (σ 23 5)], [], 0, 0) (lo_M n w3 g σ τ r1 r2)
  rw [ht, show (L.length : Int) = (L.reverse.length : Int) by rw [List.length_reverse]]
  refine s_takeIn_loop23 d Q hp hlw hgs L.reverse [] σ (fun q hq => hL q (List.mem_reverse.mp hq)) (by rw [List.length_reverse]; exact hl) hg (by rw [List.reverse_reverse]; exact h1) (fun i q hq => by simp at hq) (fun σ' k1 k2 k3 k4 => h σ' k1 ?_ k3 k4)
  rw [k2, ht, zadd]
  rfl
set_option maxHeartbeats 1000000 in
set_option maxRecDepth 100000 in
theorem s_fill223 (d : Nat) {n w3 : Nat} {g : Nat → Nat × Nat} {τ : Nat → Nat → Int64} {r1 r2 : Nat} (Q : am_Q) {mk lw : Int32} (L : List Nat) (hL : ∀ q ∈ L, q < 7) (hl : L.length ≤ 7) : ∀ (k j : Nat) (σ : Nat → Nat → Int32), j + k = L.length → σ 23 5 = Int32.ofInt (L.length : Int) → hol σ 25 0 L →
    (∀ σ' : Nat → Nat → Int32, (∀ c, c ≠ 24 → σ' c = σ c) → (∀ q, σ' 24 q = asg L j k (σ 24) q) → Q none (lo_M n w3 g σ' τ r1 r2)) →
    am_wp (am_d (d + 2)) T_X0_fill Q (71, [.ref 23, .ref 22, .int mk, .int lw, .int (Int32.ofInt (j : Int))], [], 0, 0) (lo_M n w3 g σ τ r1 r2) := by
  intro k
  induction k with
  | zero =>
    intro j σ hj ht h1 h
    refine am_wp_go (am_d_cm _) (fun pc => Nat.beq pc 71) 60 ?_
    refine And.intro (fun c1 => ?_) (fun c1 => absurd ?_ c1)
    · exact h σ (fun _ _ => rfl) (fun _ => rfl)
    · show σ 23 5 ≤ Int32.ofInt (j : Int)
      rw [ht, zle (by unfold zr; omega) (by unfold zr; omega)]
      omega
  | succ k ih =>
    intro j σ hj ht h1 h
    have hjl : j < L.length := by omega
    have hq := h1 j L[j] (List.getElem?_eq_getElem hjl)
    rw [Nat.zero_add] at hq
    have hq7 : L[j] < 7 := hL _ (List.getElem_mem hjl)
    refine am_wp_go (am_d_cm _) (fun pc => Nat.beq pc 71) 60 ?_
    refine And.intro (fun c1 => ?_) (fun c1 => ?_)
    · have c1 : σ 23 5 ≤ Int32.ofInt (j : Int) := c1
      rw [ht, zle (by unfold zr; omega) (by unfold zr; omega)] at c1
      omega
    · refine ixi j 7 (by omega) ?_
      refine ixi L[j] 7 hq7 ?_
      show am_wp _ _ _ (71, [.ref 23, .ref 22, .int mk, .int lw, .int (Int32.ofInt (j : Int) + Int32.ofInt 1)], [], 0, 0) (lo_M n w3 g (am_u σ 24 L[j] (Int32.ofInt (j : Int))) τ r1 r2)
      rw [zadd, show ((j : Int) + 1) = ((j + 1 : Nat) : Int) by omega]
      refine ih (j + 1) _ (by omega) ht h1 (fun σ' k1 k2 => h σ' (fun c hc => by rw [k1 c hc, am_u_ne hc]) (fun q => ?_))
      rw [k2 q, asg_succ (List.getElem?_eq_getElem hjl)]
      exact congrArg (fun f => asg L (j + 1) k f q) (funext fun q' => am_u_at)
set_option maxHeartbeats 1000000 in
set_option maxRecDepth 100000 in
theorem s_fill123 (d : Nat) {n w3 : Nat} {g : Nat → Nat × Nat} {τ : Nat → Nat → Int64} {r1 r2 : Nat} (Q : am_Q) {N : Nat} {mk : Int32} {lw bell : Int} {gs : Nat → Int} {mem : Nat → Bool} (hN : N ≤ 7) (hlw : zr lw) (hbell : zr bell) (hgs : ∀ q, q < 7 → zr (gs q)) (hmem : ∀ p, p < N → ((mk >>> (Int32.ofInt (p : Int) &&& 31)) &&& Int32.ofInt 1 = Int32.ofInt 1 ↔ mem p = true)) : ∀ (k p : Nat) (σ : Nat → Nat → Int32), p + k = N → σ 5 4 = Int32.ofInt (N : Int) → σ 12 0 = Int32.ofInt bell → (∀ q, q < 7 → σ 22 q = Int32.ofInt (gs q)) → σ 23 5 = Int32.ofInt ((fL lw bell gs mem p).length : Int) → hol σ 25 0 (fL lw bell gs mem p) → (∀ q, q < p → σ 24 q = Int32.ofInt (-1)) →
    (∀ σ' : Nat → Nat → Int32, (∀ c, c ≠ 23 → c ≠ 24 → c ≠ 25 → σ' c = σ c) → (∀ i, i ≠ 5 → σ' 23 i = σ 23 i) → σ' 23 5 = Int32.ofInt ((fL lw bell gs mem N).length : Int) → hol σ' 25 0 (fL lw bell gs mem N) → (∀ q, q < N → σ' 24 q = Int32.ofInt (seatZ (fL lw bell gs mem N) q)) → Q none (lo_M n w3 g σ' τ r1 r2)) →
    am_wp (am_d (d + 2)) T_X0_fill Q (8, [.ref 23, .ref 22, .int mk, .int (Int32.ofInt lw), .int (Int32.ofInt (p : Int))], [], 0, 0) (lo_M n w3 g σ τ r1 r2) := by
  intro k
  induction k with
  | zero =>
    intro p σ hp hn hb hg ht h1 hs h
    have hpN : p = N := by omega
    subst hpN
    refine am_wp_go (am_d_cm _) (fun pc => Nat.beq pc 8 || Nat.beq pc 71) 60 ?_
    refine And.intro (fun c1 => ?_) (fun c1 => absurd ?_ c1)
    · refine s_fill223 d Q (fL lw bell gs mem p) (fun q hq => Nat.lt_of_lt_of_le (fL_lt _ q hq) hN) (Nat.le_trans (fL_len _) hN) (fL lw bell gs mem p).length 0 σ (by omega) ht h1 (fun σ' k1 k2 => ?_)
      refine h σ' (fun c e1 e2 e3 => k1 c e2) (fun i hi => by rw [k1 23 (by decide)]) (by rw [k1 23 (by decide)]; exact ht) (hol_off h1 (fun i _ _ => by rw [k1 25 (by decide)])) (fun q hq => ?_)
      rw [k2 q]
      exact asg_seatZ _ q (hs q hq)
    · show σ 5 4 ≤ Int32.ofInt (p : Int)
      rw [hn]
      exact Int32.le_refl _
  | succ k ih =>
    intro p σ hp hn hb hg ht h1 hs h
    have hp7 : p < 7 := by omega
    have hflen := fL_len (lw := lw) (bell := bell) (gs := gs) (mem := mem) p
    have next : ∀ σ1 : Nat → Nat → Int32, (∀ c, c ≠ 23 → c ≠ 24 → c ≠ 25 → σ1 c = σ c) → (∀ i, i ≠ 5 → σ1 23 i = σ 23 i) → σ1 23 5 = Int32.ofInt ((fL lw bell gs mem (p + 1)).length : Int) → hol σ1 25 0 (fL lw bell gs mem (p + 1)) → σ1 24 = am_u σ 24 p (Int32.ofInt (-1)) 24 → am_wp (am_d (d + 2)) T_X0_fill Q (8, [.ref 23, .ref 22, .int mk, .int (Int32.ofInt lw), .int (Int32.ofInt (p : Int) + Int32.ofInt 1)], [], 0, 0) (lo_M n w3 g σ1 τ r1 r2) := by
      intro σ1 k1 k2 k3 k4 k5
      rw [zadd, show ((p : Int) + 1) = ((p + 1 : Nat) : Int) by omega]
      refine ih (p + 1) σ1 (by omega) (by rw [k1 5 (by decide) (by decide) (by decide)]; exact hn) (by rw [k1 12 (by decide) (by decide) (by decide)]; exact hb) (fun q hq => by rw [k1 22 (by decide) (by decide) (by decide)]; exact hg q hq) k3 k4 (fun q hq => ?_) (fun σ' j1 j2 j3 j4 j5 => h σ' (fun c e1 e2 e3 => by rw [j1 c e1 e2 e3, k1 c e1 e2 e3]) (fun i hi => by rw [j2 i hi, k2 i hi]) j3 j4 j5)
      rw [k5, am_u_at]
      split
      · rfl
      · exact hs q (by omega)
    refine am_wp_go (am_d_cm _) (fun pc => Nat.beq pc 8 || Nat.beq pc 71) 60 ?_
    refine And.intro (fun c1 => ?_) (fun c1 => ?_)
    · have c1 : σ 5 4 ≤ Int32.ofInt (p : Int) := c1
      rw [hn, zle (by unfold zr; omega) (by unfold zr; omega)] at c1
      omega
    · refine ixi p 7 hp7 ?_
      refine And.intro (fun c2 => ?_) (fun c2 => ?_)
      · have hm : mem p = true := (hmem p (by omega)).mp c2
        refine ixi p 7 hp7 ?_
        refine ixi 0 6 (by omega) ?_
        refine And.intro (fun c3 => ?_) (fun c3 => ?_)
        · have c3 : σ 12 0 ≤ σ 22 p := c3
          rw [hb, hg p hp7, zle hbell (hgs p hp7)] at c3
          have hf : fL lw bell gs mem (p + 1) = fL lw bell gs mem p := by
            show (if _ then _ else _) = _
            rw [if_neg (fun q => by omega)]
          refine next (am_u σ 24 p (Int32.ofInt (-1))) (fun c e1 e2 e3 => am_u_ne e2) (fun i _ => rfl) (by rw [hf]; exact ht) (by rw [hf]; exact h1) rfl
        · have c3 : ¬ σ 12 0 ≤ σ 22 p := c3
          rw [hb, hg p hp7, zle hbell (hgs p hp7)] at c3
          have hf : fL lw bell gs mem (p + 1) = insL (fun q => mvs lw (gs q) (gs p)) p (fL lw bell gs mem p).reverse [] := by
            show (if _ then _ else _) = _
            rw [if_pos ⟨hm, by omega⟩]
          have hlen : (fL lw bell gs mem (p + 1)).length = (fL lw bell gs mem p).length + 1 := by rw [hf, insL_len]; simp
          refine s_takeIn23 d _ hp7 hlw hgs (fL lw bell gs mem p) (am_u σ 24 p (Int32.ofInt (-1))) (fun q hq => Nat.lt_of_lt_of_le (fL_lt p q hq) (by omega)) (by omega) hg ht h1 (fun σ' k1 k2 k3 k4 => ?_)
          refine next σ' (fun c e1 e2 e3 => by rw [k1 c e1 e3, am_u_ne e2]) (fun i hi => by rw [k3 i hi]; rfl) (by rw [k2, hlen]) (by rw [hf]; exact k4) (k1 24 (by decide) (by decide))
      · have hm : ¬ mem p = true := fun q => c2 ((hmem p (by omega)).mpr q)
        have hf : fL lw bell gs mem (p + 1) = fL lw bell gs mem p := by
          show (if _ then _ else _) = _
          rw [if_neg (fun q => hm q.1)]
        refine next (am_u σ 24 p (Int32.ofInt (-1))) (fun c e1 e2 e3 => am_u_ne e2) (fun i _ => rfl) (by rw [hf]; exact ht) (by rw [hf]; exact h1) rfl
set_option maxRecDepth 100000 in
/-- the church is filled: who sits where -/
theorem s_fill23 (d : Nat) {n w3 : Nat} {g : Nat → Nat × Nat} {τ : Nat → Nat → Int64} {r1 r2 : Nat} (Q : am_Q) {N : Nat} {mk : Int32} {lw bell : Int} {gs : Nat → Int} {mem : Nat → Bool} {σ : Nat → Nat → Int32} (hN : N ≤ 7) (hlw : zr lw) (hbell : zr bell) (hgs : ∀ q, q < 7 → zr (gs q)) (hmem : ∀ p, p < N → ((mk >>> (Int32.ofInt (p : Int) &&& 31)) &&& Int32.ofInt 1 = Int32.ofInt 1 ↔ mem p = true)) (hn : σ 5 4 = Int32.ofInt (N : Int)) (hb : σ 12 0 = Int32.ofInt bell) (hg : ∀ q, q < 7 → σ 22 q = Int32.ofInt (gs q))
    (h : ∀ σ' : Nat → Nat → Int32, (∀ c, c ≠ 23 → c ≠ 24 → c ≠ 25 → σ' c = σ c) → (∀ i, i ≠ 5 → σ' 23 i = σ 23 i) → σ' 23 5 = Int32.ofInt ((fL lw bell gs mem N).length : Int) → hol σ' 25 0 (fL lw bell gs mem N) → (∀ q, q < N → σ' 24 q = Int32.ofInt (seatZ (fL lw bell gs mem N) q)) → Q none (lo_M n w3 g σ' τ r1 r2)) :
    am_d (d + 3) 1 [.ref 23, .ref 22, .int mk, .int (Int32.ofInt lw)] 0 0 (lo_M n w3 g σ τ r1 r2) Q := by
  refine am_goT T_X0_fill [.ref 23, .ref 22, .int mk, .int (Int32.ofInt lw), .null] rfl rfl (fun pc => Nat.beq pc 8 || Nat.beq pc 71) 30 ?_
  refine s_fill123 d Q hN hlw hbell hgs hmem N 0 (am_u σ 23 5 (Int32.ofInt 0)) (by omega) hn hb hg rfl (fun i q hq => by simp [fL] at hq) (fun q hq => by omega) (fun σ' k1 k2 k3 k4 k5 => h σ' (fun c e1 e2 e3 => by rw [k1 c e1 e2 e3, am_u_ne e1]) (fun i hi => by rw [k2 i hi, am_u_at, if_neg hi]) k3 k4 k5)
end
section
/-! the other church -/
set_option maxHeartbeats 1000000 in
set_option maxRecDepth 100000 in
theorem s_takeIn_loop26 (d : Nat) {n w3 : Nat} {g : Nat → Nat × Nat} {τ : Nat → Nat → Int64} {r1 r2 : Nat} (Q : am_Q) {p : Nat} {lw : Int} {gs : Nat → Int} (hp : p < 7) (hlw : zr lw) (hgs : ∀ q, q < 7 → zr (gs q)) : ∀ (R L2 : List Nat) (σ : Nat → Nat → Int32), (∀ q ∈ R, q < 7) → R.length + L2.length < 7 → (∀ q, q < 7 → σ 22 q = Int32.ofInt (gs q)) → hol σ 28 0 R.reverse → hol σ 28 (R.length + 1) L2 →
    (∀ σ' : Nat → Nat → Int32, (∀ c, c ≠ 26 → c ≠ 28 → σ' c = σ c) → σ' 26 5 = σ 26 5 + Int32.ofInt 1 → (∀ i, i ≠ 5 → σ' 26 i = σ 26 i) → hol σ' 28 0 (insL (fun q => mvs lw (gs q) (gs p)) p R L2) → Q none (lo_M n w3 g σ' τ r1 r2)) →
    am_wp (am_d (d + 1)) T_X0_takeIn Q (6, [.ref 26, .int (Int32.ofInt (p : Int)), .ref 22, .int (Int32.ofInt lw), .int (Int32.ofInt (R.length : Int))], [], 0, 0) (lo_M n w3 g σ τ r1 r2) := by
  intro R
  induction R with
  | nil =>
    intro L2 σ hR hl hg h1 h2 h
    refine am_wp_go (am_d_cm _) (fun pc => Nat.beq pc 6) 60 ?_
    refine And.intro (fun c1 => ?_) (fun c1 => absurd (by rw [zle0 (by unfold zr; simp)]; simp) c1)
    refine ixi 0 7 (by omega) ?_
    refine h (am_u (am_u σ 28 0 (Int32.ofInt p)) 26 5 (σ 26 5 + Int32.ofInt 1)) ?_ ?_ ?_ ?_
    · intro c hc1 hc2
      rw [am_u_ne hc1, am_u_ne hc2]
    · rfl
    · intro i hi
      rw [am_u_at, if_neg hi]
      rfl
    · refine hol_cons rfl ?_
      refine hol_off h2 (fun i hi hi2 => ?_)
      have hi : 1 ≤ i := hi
      show (if i = 0 then _ else _) = _
      rw [if_neg (by omega)]
  | cons q R ih =>
    intro L2 σ hR hl hg h1 h2 h
    have hq7 : q < 7 := hR q List.mem_cons_self
    have hlen : (q :: R).length = R.length + 1 := rfl
    have hq : σ 28 R.length = Int32.ofInt (q : Int) := by
      have := h1 R.length q (by rw [List.reverse_cons, List.getElem?_append_right (by simp)]; simp)
      rw [Nat.zero_add] at this
      exact this
    refine am_wp_go (am_d_cm _) (fun pc => Nat.beq pc 6) 60 ?_
    refine And.intro (fun c1 => absurd c1 (by rw [zle0 (by unfold zr; simp; omega)]; simp)) (fun c1 => ?_)
    refine ixi R.length 7 (by omega) ?_ (by rw [zsub, hlen]; congr 1; omega)
    refine ixi q 7 (by omega) ?_
    refine ixi p 7 (by omega) ?_
    show am_d (d + 1) 3 [.int (σ 22 q), .int (σ 22 p), .int (Int32.ofInt lw)] 0 0 _ _
    rw [hg q hq7, hg p hp]
    refine s_movesUp d hlw (hgs q hq7) (hgs p hp) _ _ ?_
    by_cases hmv : mvs lw (gs q) (gs p) = true
    · rw [if_pos hmv]
      refine And.intro (fun c2 => absurd c2 (by decide)) (fun c2 => ?_)
      refine ixi R.length 7 (by omega) ?_ (by rw [zsub, hlen]; congr 1; omega)
      refine ixi (R.length + 1) 7 (by omega) ?_
      have hs : (Int32.ofInt ((q :: R).length : Int) + Int32.ofInt (-1)) = Int32.ofInt (R.length : Int) := by rw [zadd, hlen]; congr 1; omega
      show am_wp _ _ _ (6, [.ref 26, .int (Int32.ofInt (p : Int)), .ref 22, .int (Int32.ofInt lw), .int (Int32.ofInt ((q :: R).length : Int) + Int32.ofInt (-1))], [], 0, 0) (lo_M n w3 g (am_u σ 28 (R.length + 1) (σ 28 R.length)) τ r1 r2)
      rw [hs]
      refine ih (q :: L2) _ (fun q hq => hR q (List.mem_cons_of_mem _ hq)) (by rw [hlen] at hl; simp; omega) (fun q hq => hg q hq) ?_ ?_ (fun σ' k1 k2 k3 k4 => h σ' (fun c e1 e2 => ?_) k2 (fun i hi => k3 i hi) ?_)
      · refine hol_off (hol_left (L2 := [q]) (by rw [← List.reverse_cons]; exact h1)) (fun i _ hi => ?_)
        rw [List.length_reverse] at hi
        show (if i = R.length + 1 then _ else _) = _
        rw [if_neg (by omega)]
      · refine hol_cons ?_ (hol_off h2 (fun i hi _ => ?_))
        · show (if R.length + 1 = R.length + 1 then _ else _) = _
          rw [if_pos rfl]
          exact hq
        · have hi : R.length + 1 + 1 ≤ i := hi
          show (if i = R.length + 1 then _ else _) = _
          rw [if_neg (by omega)]
      · rw [k1 c e1 e2, am_u_ne e2]
      · unfold insL
        rw [if_pos hmv]
        exact k4
    · rw [if_neg hmv]
      refine And.intro (fun c2 => ?_) (fun c2 => absurd rfl c2)
      refine ixi (R.length + 1) 7 (by omega) ?_
      refine h (am_u (am_u σ 28 (R.length + 1) (Int32.ofInt p)) 26 5 (σ 26 5 + Int32.ofInt 1)) ?_ ?_ ?_ ?_
      · intro c hc1 hc2
        rw [am_u_ne hc1, am_u_ne hc2]
      · rfl
      · intro i hi
        rw [am_u_at, if_neg hi]
        rfl
      · unfold insL
        rw [if_neg hmv]
        refine hol_app (hol_off h1 (fun i _ hi => ?_)) ?_
        · rw [List.length_reverse, hlen] at hi
          show (if i = R.length + 1 then _ else _) = _
          rw [if_neg (by omega)]
        · rw [List.length_reverse, Nat.zero_add]
          refine hol_cons ?_ (hol_off h2 (fun i hi _ => ?_))
          · show (if R.length + 1 = R.length + 1 then _ else _) = _
            rw [if_pos rfl]
          · rw [hlen] at hi
            show (if i = R.length + 1 then _ else _) = _
            rw [if_neg (by omega)]

set_option maxRecDepth 100000 in
theorem s_takeIn26 (d : Nat) {n w3 : Nat} {g : Nat → Nat × Nat} {τ : Nat → Nat → Int64} {r1 r2 : Nat} (Q : am_Q) {p : Nat} {lw : Int} {gs : Nat → Int} (hp : p < 7) (hlw : zr lw) (hgs : ∀ q, q < 7 → zr (gs q)) (L : List Nat) (σ : Nat → Nat → Int32) (hL : ∀ q ∈ L, q < 7) (hl : L.length < 7) (hg : ∀ q, q < 7 → σ 22 q = Int32.ofInt (gs q)) (ht : σ 26 5 = Int32.ofInt (L.length : Int)) (h1 : hol σ 28 0 L)
    (h : ∀ σ' : Nat → Nat → Int32, (∀ c, c ≠ 26 → c ≠ 28 → σ' c = σ c) → σ' 26 5 = Int32.ofInt ((L.length + 1 : Nat) : Int) → (∀ i, i ≠ 5 → σ' 26 i = σ 26 i) → hol σ' 28 0 (insL (fun q => mvs lw (gs q) (gs p)) p L.reverse []) → Q none (lo_M n w3 g σ' τ r1 r2)) :
    am_d (d + 2) 2 [.ref 26, .int (Int32.ofInt (p : Int)), .ref 22, .int (Int32.ofInt lw)] 0 0 (lo_M n w3 g σ τ r1 r2) Q := by
  refine am_goT T_X0_takeIn [.ref 26, .int (Int32.ofInt (p : Int)), .ref 22, .int (Int32.ofInt lw), .null] rfl rfl (fun pc => Nat.beq pc 6) 30 ?_
  show am_wp _ _ _ (6, [.ref 26, .int (Int32.ofInt (p : Int)), .ref 22, .int (Int32.ofInt lw), .int (σ 26 5)], [], 0, 0) (lo_M n w3 g σ τ r1 r2)
  rw [ht, show (L.length : Int) = (L.reverse.length : Int) by rw [List.length_reverse]]
  refine s_takeIn_loop26 d Q hp hlw hgs L.reverse [] σ (fun q hq => hL q (List.mem_reverse.mp hq)) (by rw [List.length_reverse]; exact hl) hg (by rw [List.reverse_reverse]; exact h1) (fun i q hq => by simp at hq) (fun σ' k1 k2 k3 k4 => h σ' k1 ?_ k3 k4)
  rw [k2, ht, zadd]
  rfl
set_option maxHeartbeats 1000000 in
set_option maxRecDepth 100000 in
theorem s_fill226 (d : Nat) {n w3 : Nat} {g : Nat → Nat × Nat} {τ : Nat → Nat → Int64} {r1 r2 : Nat} (Q : am_Q) {mk lw : Int32} (L : List Nat) (hL : ∀ q ∈ L, q < 7) (hl : L.length ≤ 7) : ∀ (k j : Nat) (σ : Nat → Nat → Int32), j + k = L.length → σ 26 5 = Int32.ofInt (L.length : Int) → hol σ 28 0 L →
    (∀ σ' : Nat → Nat → Int32, (∀ c, c ≠ 27 → σ' c = σ c) → (∀ q, σ' 27 q = asg L j k (σ 27) q) → Q none (lo_M n w3 g σ' τ r1 r2)) →
    am_wp (am_d (d + 2)) T_X0_fill Q (71, [.ref 26, .ref 22, .int mk, .int lw, .int (Int32.ofInt (j : Int))], [], 0, 0) (lo_M n w3 g σ τ r1 r2) := by
  intro k
  induction k with
  | zero =>
    intro j σ hj ht h1 h
    refine am_wp_go (am_d_cm _) (fun pc => Nat.beq pc 71) 60 ?_
    refine And.intro (fun c1 => ?_) (fun c1 => absurd ?_ c1)
    · exact h σ (fun _ _ => rfl) (fun _ => rfl)
    · show σ 26 5 ≤ Int32.ofInt (j : Int)
      rw [ht, zle (by unfold zr; omega) (by unfold zr; omega)]
      omega
  | succ k ih =>
    intro j σ hj ht h1 h
    have hjl : j < L.length := by omega
    have hq := h1 j L[j] (List.getElem?_eq_getElem hjl)
    rw [Nat.zero_add] at hq
    have hq7 : L[j] < 7 := hL _ (List.getElem_mem hjl)
    refine am_wp_go (am_d_cm _) (fun pc => Nat.beq pc 71) 60 ?_
    refine And.intro (fun c1 => ?_) (fun c1 => ?_)
    · have c1 : σ 26 5 ≤ Int32.ofInt (j : Int) := c1
      rw [ht, zle (by unfold zr; omega) (by unfold zr; omega)] at c1
      omega
    · refine ixi j 7 (by omega) ?_
      refine ixi L[j] 7 hq7 ?_
      show am_wp _ _ _ (71, [.ref 26, .ref 22, .int mk, .int lw, .int (Int32.ofInt (j : Int) + Int32.ofInt 1)], [], 0, 0) (lo_M n w3 g (am_u σ 27 L[j] (Int32.ofInt (j : Int))) τ r1 r2)
      rw [zadd, show ((j : Int) + 1) = ((j + 1 : Nat) : Int) by omega]
      refine ih (j + 1) _ (by omega) ht h1 (fun σ' k1 k2 => h σ' (fun c hc => by rw [k1 c hc, am_u_ne hc]) (fun q => ?_))
      rw [k2 q, asg_succ (List.getElem?_eq_getElem hjl)]
      exact congrArg (fun f => asg L (j + 1) k f q) (funext fun q' => am_u_at)
set_option maxHeartbeats 1000000 in
set_option maxRecDepth 100000 in
theorem s_fill126 (d : Nat) {n w3 : Nat} {g : Nat → Nat × Nat} {τ : Nat → Nat → Int64} {r1 r2 : Nat} (Q : am_Q) {N : Nat} {mk : Int32} {lw bell : Int} {gs : Nat → Int} {mem : Nat → Bool} (hN : N ≤ 7) (hlw : zr lw) (hbell : zr bell) (hgs : ∀ q, q < 7 → zr (gs q)) (hmem : ∀ p, p < N → ((mk >>> (Int32.ofInt (p : Int) &&& 31)) &&& Int32.ofInt 1 = Int32.ofInt 1 ↔ mem p = true)) : ∀ (k p : Nat) (σ : Nat → Nat → Int32), p + k = N → σ 5 4 = Int32.ofInt (N : Int) → σ 12 0 = Int32.ofInt bell → (∀ q, q < 7 → σ 22 q = Int32.ofInt (gs q)) → σ 26 5 = Int32.ofInt ((fL lw bell gs mem p).length : Int) → hol σ 28 0 (fL lw bell gs mem p) → (∀ q, q < p → σ 27 q = Int32.ofInt (-1)) →
    (∀ σ' : Nat → Nat → Int32, (∀ c, c ≠ 26 → c ≠ 27 → c ≠ 28 → σ' c = σ c) → (∀ i, i ≠ 5 → σ' 26 i = σ 26 i) → σ' 26 5 = Int32.ofInt ((fL lw bell gs mem N).length : Int) → hol σ' 28 0 (fL lw bell gs mem N) → (∀ q, q < N → σ' 27 q = Int32.ofInt (seatZ (fL lw bell gs mem N) q)) → Q none (lo_M n w3 g σ' τ r1 r2)) →
    am_wp (am_d (d + 2)) T_X0_fill Q (8, [.ref 26, .ref 22, .int mk, .int (Int32.ofInt lw), .int (Int32.ofInt (p : Int))], [], 0, 0) (lo_M n w3 g σ τ r1 r2) := by
  intro k
  induction k with
  | zero =>
    intro p σ hp hn hb hg ht h1 hs h
    have hpN : p = N := by omega
    subst hpN
    refine am_wp_go (am_d_cm _) (fun pc => Nat.beq pc 8 || Nat.beq pc 71) 60 ?_
    refine And.intro (fun c1 => ?_) (fun c1 => absurd ?_ c1)
    · refine s_fill226 d Q (fL lw bell gs mem p) (fun q hq => Nat.lt_of_lt_of_le (fL_lt _ q hq) hN) (Nat.le_trans (fL_len _) hN) (fL lw bell gs mem p).length 0 σ (by omega) ht h1 (fun σ' k1 k2 => ?_)
      refine h σ' (fun c e1 e2 e3 => k1 c e2) (fun i hi => by rw [k1 26 (by decide)]) (by rw [k1 26 (by decide)]; exact ht) (hol_off h1 (fun i _ _ => by rw [k1 28 (by decide)])) (fun q hq => ?_)
      rw [k2 q]
      exact asg_seatZ _ q (hs q hq)
    · show σ 5 4 ≤ Int32.ofInt (p : Int)
      rw [hn]
      exact Int32.le_refl _
  | succ k ih =>
    intro p σ hp hn hb hg ht h1 hs h
    have hp7 : p < 7 := by omega
    have hflen := fL_len (lw := lw) (bell := bell) (gs := gs) (mem := mem) p
    have next : ∀ σ1 : Nat → Nat → Int32, (∀ c, c ≠ 26 → c ≠ 27 → c ≠ 28 → σ1 c = σ c) → (∀ i, i ≠ 5 → σ1 26 i = σ 26 i) → σ1 26 5 = Int32.ofInt ((fL lw bell gs mem (p + 1)).length : Int) → hol σ1 28 0 (fL lw bell gs mem (p + 1)) → σ1 27 = am_u σ 27 p (Int32.ofInt (-1)) 27 → am_wp (am_d (d + 2)) T_X0_fill Q (8, [.ref 26, .ref 22, .int mk, .int (Int32.ofInt lw), .int (Int32.ofInt (p : Int) + Int32.ofInt 1)], [], 0, 0) (lo_M n w3 g σ1 τ r1 r2) := by
      intro σ1 k1 k2 k3 k4 k5
      rw [zadd, show ((p : Int) + 1) = ((p + 1 : Nat) : Int) by omega]
      refine ih (p + 1) σ1 (by omega) (by rw [k1 5 (by decide) (by decide) (by decide)]; exact hn) (by rw [k1 12 (by decide) (by decide) (by decide)]; exact hb) (fun q hq => by rw [k1 22 (by decide) (by decide) (by decide)]; exact hg q hq) k3 k4 (fun q hq => ?_) (fun σ' j1 j2 j3 j4 j5 => h σ' (fun c e1 e2 e3 => by rw [j1 c e1 e2 e3, k1 c e1 e2 e3]) (fun i hi => by rw [j2 i hi, k2 i hi]) j3 j4 j5)
      rw [k5, am_u_at]
      split
      · rfl
      · exact hs q (by omega)
    refine am_wp_go (am_d_cm _) (fun pc => Nat.beq pc 8 || Nat.beq pc 71) 60 ?_
    refine And.intro (fun c1 => ?_) (fun c1 => ?_)
    · have c1 : σ 5 4 ≤ Int32.ofInt (p : Int) := c1
      rw [hn, zle (by unfold zr; omega) (by unfold zr; omega)] at c1
      omega
    · refine ixi p 7 hp7 ?_
      refine And.intro (fun c2 => ?_) (fun c2 => ?_)
      · have hm : mem p = true := (hmem p (by omega)).mp c2
        refine ixi p 7 hp7 ?_
        refine ixi 0 6 (by omega) ?_
        refine And.intro (fun c3 => ?_) (fun c3 => ?_)
        · have c3 : σ 12 0 ≤ σ 22 p := c3
          rw [hb, hg p hp7, zle hbell (hgs p hp7)] at c3
          have hf : fL lw bell gs mem (p + 1) = fL lw bell gs mem p := by
            show (if _ then _ else _) = _
            rw [if_neg (fun q => by omega)]
          refine next (am_u σ 27 p (Int32.ofInt (-1))) (fun c e1 e2 e3 => am_u_ne e2) (fun i _ => rfl) (by rw [hf]; exact ht) (by rw [hf]; exact h1) rfl
        · have c3 : ¬ σ 12 0 ≤ σ 22 p := c3
          rw [hb, hg p hp7, zle hbell (hgs p hp7)] at c3
          have hf : fL lw bell gs mem (p + 1) = insL (fun q => mvs lw (gs q) (gs p)) p (fL lw bell gs mem p).reverse [] := by
            show (if _ then _ else _) = _
            rw [if_pos ⟨hm, by omega⟩]
          have hlen : (fL lw bell gs mem (p + 1)).length = (fL lw bell gs mem p).length + 1 := by rw [hf, insL_len]; simp
          refine s_takeIn26 d _ hp7 hlw hgs (fL lw bell gs mem p) (am_u σ 27 p (Int32.ofInt (-1))) (fun q hq => Nat.lt_of_lt_of_le (fL_lt p q hq) (by omega)) (by omega) hg ht h1 (fun σ' k1 k2 k3 k4 => ?_)
          refine next σ' (fun c e1 e2 e3 => by rw [k1 c e1 e3, am_u_ne e2]) (fun i hi => by rw [k3 i hi]; rfl) (by rw [k2, hlen]) (by rw [hf]; exact k4) (k1 27 (by decide) (by decide))
      · have hm : ¬ mem p = true := fun q => c2 ((hmem p (by omega)).mpr q)
        have hf : fL lw bell gs mem (p + 1) = fL lw bell gs mem p := by
          show (if _ then _ else _) = _
          rw [if_neg (fun q => hm q.1)]
        refine next (am_u σ 27 p (Int32.ofInt (-1))) (fun c e1 e2 e3 => am_u_ne e2) (fun i _ => rfl) (by rw [hf]; exact ht) (by rw [hf]; exact h1) rfl
set_option maxRecDepth 100000 in
/-- the church is filled: who sits where -/
theorem s_fill26 (d : Nat) {n w3 : Nat} {g : Nat → Nat × Nat} {τ : Nat → Nat → Int64} {r1 r2 : Nat} (Q : am_Q) {N : Nat} {mk : Int32} {lw bell : Int} {gs : Nat → Int} {mem : Nat → Bool} {σ : Nat → Nat → Int32} (hN : N ≤ 7) (hlw : zr lw) (hbell : zr bell) (hgs : ∀ q, q < 7 → zr (gs q)) (hmem : ∀ p, p < N → ((mk >>> (Int32.ofInt (p : Int) &&& 31)) &&& Int32.ofInt 1 = Int32.ofInt 1 ↔ mem p = true)) (hn : σ 5 4 = Int32.ofInt (N : Int)) (hb : σ 12 0 = Int32.ofInt bell) (hg : ∀ q, q < 7 → σ 22 q = Int32.ofInt (gs q))
    (h : ∀ σ' : Nat → Nat → Int32, (∀ c, c ≠ 26 → c ≠ 27 → c ≠ 28 → σ' c = σ c) → (∀ i, i ≠ 5 → σ' 26 i = σ 26 i) → σ' 26 5 = Int32.ofInt ((fL lw bell gs mem N).length : Int) → hol σ' 28 0 (fL lw bell gs mem N) → (∀ q, q < N → σ' 27 q = Int32.ofInt (seatZ (fL lw bell gs mem N) q)) → Q none (lo_M n w3 g σ' τ r1 r2)) :
    am_d (d + 3) 1 [.ref 26, .ref 22, .int mk, .int (Int32.ofInt lw)] 0 0 (lo_M n w3 g σ τ r1 r2) Q := by
  refine am_goT T_X0_fill [.ref 26, .ref 22, .int mk, .int (Int32.ofInt lw), .null] rfl rfl (fun pc => Nat.beq pc 8 || Nat.beq pc 71) 30 ?_
  refine s_fill126 d Q hN hlw hbell hgs hmem N 0 (am_u σ 26 5 (Int32.ofInt 0)) (by omega) hn hb hg rfl (fun i q hq => by simp [fL] at hq) (fun q hq => by omega) (fun σ' k1 k2 k3 k4 k5 => h σ' (fun c e1 e2 e3 => by rw [k1 c e1 e2 e3, am_u_ne e1]) (fun i hi => by rw [k2 i hi, am_u_at, if_neg hi]) k3 k4 k5)
end
section
/-! numbers by the library's own methods -/
theorem zabs {a : Int} (h1 : -2147483648 < a) (h2 : a < 2147483648) : (if 0 ≤ Int32.ofInt a then Int32.ofInt a else 0 - Int32.ofInt a) = Int32.ofInt (a.natAbs : Int) := by
  split
  · next c1 =>
    rw [z0le ⟨by omega, h2⟩] at c1
    rw [show ((a.natAbs : Nat) : Int) = a by omega]
  · next c1 =>
    rw [z0le ⟨by omega, h2⟩] at c1
    rw [z0, zsub, show ((a.natAbs : Nat) : Int) = 0 - a by omega]
theorem zmax {a b : Int} (ha : zr a) (hb : zr b) : (if Int32.ofInt a < Int32.ofInt b then Int32.ofInt b else Int32.ofInt a) = Int32.ofInt (max a b) := by
  split
  · next c1 =>
    rw [zlt ha hb] at c1
    rw [show max a b = b by omega]
  · next c1 =>
    rw [zlt ha hb] at c1
    rw [show max a b = a by omega]
theorem zmin {a b : Int} (ha : zr a) (hb : zr b) : (if Int32.ofInt b < Int32.ofInt a then Int32.ofInt b else Int32.ofInt a) = Int32.ofInt (min a b) := by
  split
  · next c1 =>
    rw [zlt hb ha] at c1
    rw [show min a b = b by omega]
  · next c1 =>
    rw [zlt hb ha] at c1
    rw [show min a b = a by omega]
/-- the bits of small numbers -/
def pcn (k : Nat) : Nat := k % 2 + k / 2 % 2 + k / 4 % 2 + k / 8 % 2 + k / 16 % 2 + k / 32 % 2 + k / 64 % 2
def bcx (x : Int32) : Int32 :=
  let x := x - ((x.toUInt32 >>> ((Int32.ofInt 1).toUInt32 &&& Int32.toUInt32 31)).toInt32 &&& Int32.ofInt 1431655765)
  let x := (x &&& Int32.ofInt 858993459) + ((x.toUInt32 >>> ((Int32.ofInt 2).toUInt32 &&& Int32.toUInt32 31)).toInt32 &&& Int32.ofInt 858993459)
  let x := (x + (x.toUInt32 >>> ((Int32.ofInt 4).toUInt32 &&& Int32.toUInt32 31)).toInt32) &&& Int32.ofInt 252645135
  let x := x + (x.toUInt32 >>> ((Int32.ofInt 8).toUInt32 &&& Int32.toUInt32 31)).toInt32
  let x := x + (x.toUInt32 >>> ((Int32.ofInt 16).toUInt32 &&& Int32.toUInt32 31)).toInt32
  x &&& Int32.ofInt 63
theorem bcx_eq : ∀ k : Nat, k < 128 → bcx (Int32.ofInt (k : Int)) = Int32.ofInt (pcn k : Int) := by decide +kernel
set_option maxRecDepth 100000 in
theorem s_bitCount (d : Nat) {k : Nat} (hk : k < 128) (M : am_M) (Q : am_Q) (h : Q (some (.int (Int32.ofInt (pcn k : Int)))) M) : am_d (d + 1) 195 [.int (Int32.ofInt (k : Int))] 0 0 M Q := by
  rw [← bcx_eq k hk] at h
  refine am_goT T_J6_bitCount_0f7a4 [.int (Int32.ofInt (k : Int))] rfl rfl (fun _ => false) 60 ?_
  exact h
/-! Rules -/
section RU
variable {n w3 : Nat} {g : Nat → Nat × Nat} {σ : Nat → Nat → Int32} {τ : Nat → Nat → Int64} {r1 r2 : Nat}
set_option maxRecDepth 100000 in
theorem s_seatWorth (d : Nat) (Q : am_Q) {seat wish care : Int} (hc : σ 12 3 = Int32.ofInt care) (h1 : -1000 ≤ seat - wish) (h2 : seat - wish ≤ 1000) (h : Q (some (.int (Int32.ofInt (20 - care * ((seat - wish).natAbs : Int))))) (lo_M n w3 g σ τ r1 r2)) : am_d (d + 1) 38 [.ref 11, .int (Int32.ofInt seat), .int (Int32.ofInt wish)] 0 0 (lo_M n w3 g σ τ r1 r2) Q := by
  rw [← zsub, ← zmul, ← hc, ← zabs (by omega) (by omega), ← zsub seat] at h
  refine am_goT T_X6_seatWorth [.ref 11, .int (Int32.ofInt seat), .int (Int32.ofInt wish)] rfl rfl (fun _ => false) 30 ?_
  refine ixi 3 6 (by omega) ?_
  exact h
set_option maxRecDepth 100000 in
theorem s_wide (d : Nat) (Q : am_Q) {wd : Int} (hc : σ 12 2 = Int32.ofInt wd) (h1 : 1 ≤ wd) (h2 : wd ≤ 4) (h : Q (some (.int (Int32.ofInt wd))) (lo_M n w3 g σ τ r1 r2)) : am_d (d + 1) 39 [.ref 11] 0 0 (lo_M n w3 g σ τ r1 r2) Q := by
  have e : (if Int32.ofInt 1 < σ 12 2 then σ 12 2 else Int32.ofInt 1) = Int32.ofInt wd := by rw [hc, zmax (by unfold zr; omega) (by unfold zr; omega), show max 1 wd = wd by omega]
  rw [← e] at h
  refine am_goT T_X6_wide [.ref 11] rfl rfl (fun _ => false) 30 ?_
  refine ixi 2 6 (by omega) ?_
  exact h
end RU
end
section
/-! what one has, in a church -/
/-- love for those on k seats from i on -/
def lbs (lv : Nat → Nat → Int) (L : List Nat) (p : Nat) : Nat → Nat → Int
  | _, 0 => 0
  | i, k + 1 => if h : i < L.length then lv p L[i] + lbs lv L p (i + 1) k else 0
theorem lbs_out {lv : Nat → Nat → Int} {L : List Nat} {p : Nat} (i k : Nat) (h : L.length ≤ i) : lbs lv L p i k = 0 := by
  cases k with
  | zero => rfl
  | succ k => unfold lbs; rw [dif_neg (by omega)]
theorem zN (n : Nat) : Int32.ofInt (n : Int) = nI n := by
  unfold nI
  rfl
theorem zrem {a b : Nat} (ha : a < 2147483648) (hb : 0 < b) (hb2 : b < 2147483648) : Int32.ofInt (a : Int) - Int32.ofInt (a : Int) / Int32.ofInt (b : Int) * Int32.ofInt (b : Int) = Int32.ofInt ((a % b : Nat) : Int) := by
  rw [zN, zN, zN]
  exact pk_rem ha hb hb2
theorem zdiv {a b : Nat} (ha : a < 2147483648) (hb : 0 < b) (hb2 : b < 2147483648) : Int32.ofInt (a : Int) / Int32.ofInt (b : Int) = Int32.ofInt ((a / b : Nat) : Int) := by
  rw [zN, zN, zN]
  exact pk_div ha hb hb2
set_option maxRecDepth 100000 in
theorem s_between (d : Nat) (a b : Int32) {n w3 : Nat} {g : Nat → Nat × Nat} {σ : Nat → Nat → Int32} {τ : Nat → Nat → Int64} {r1 r2 : Nat} (Q : am_Q) {i j : Nat} (ha : a = Int32.ofInt (i : Int) ∧ i < 61) (hb : b = Int32.ofInt (j : Int) ∧ j < 61) (h : Q (some (.int (σ 10 j - σ 10 i))) (lo_M n w3 g σ τ r1 r2)) : am_d (d + 1) 35 [.ref 9, .int a, .int b] 0 0 (lo_M n w3 g σ τ r1 r2) Q := by
  refine am_goT T_X5_between [.ref 9, .int a, .int b] rfl rfl (fun _ => false) 30 ?_
  refine ixi j 61 hb.2 ?_ hb.1
  refine ixi i 61 ha.2 ?_ ha.1
  exact h
set_option maxHeartbeats 2000000 in
set_option maxRecDepth 100000 in
theorem s_love_loop23 (d : Nat) {n w3 : Nat} {g : Nat → Nat × Nat} {σ : Nat → Nat → Int32} {τ : Nat → Nat → Int64} {r1 r2 : Nat} (Q : am_Q) {p st : Nat} {wd : Nat} {x2 : Int32} {lv : Nat → Nat → Int} {L : List Nat} (hp : p < 7) (hw : wd ≤ 4) (hst : st < 7) (hL : ∀ q ∈ L, q < 7) (hl : L.length ≤ 7) (ht : σ 23 5 = Int32.ofInt (L.length : Int)) (h1 : hol σ 25 0 L) (hlv : ∀ a, a < 7 → ∀ b, b < 7 → σ (14 + a) b = Int32.ofInt (lv a b)) : ∀ (k i : Nat) (acc : Int), i + k = st + wd →
    Q (some (.int (Int32.ofInt (acc + lbs lv L p i k)))) (lo_M n w3 g σ τ r1 r2) →
    am_wp (am_d (d + 1)) T_X0_loveBeside Q (28, [.ref 23, .int (Int32.ofInt (p : Int)), .int x2, .int (Int32.ofInt (wd : Int)), .int (Int32.ofInt (st : Int)), .int (Int32.ofInt acc), .int (Int32.ofInt (i : Int))], [], 0, 0) (lo_M n w3 g σ τ r1 r2) := by
  intro k
  induction k with
  | zero =>
    intro i acc hi h
    refine am_wp_go (am_d_cm _) (fun pc => Nat.beq pc 28) 60 ?_
    refine And.intro (fun c1 => ?_) (fun c1 => absurd ?_ c1)
    · unfold lbs at h
      rw [Int.add_zero] at h
      exact h
    · show Int32.ofInt (st : Int) + Int32.ofInt (wd : Int) ≤ Int32.ofInt (i : Int)
      rw [zadd, zle (by unfold zr; omega) (by unfold zr; omega)]
      omega
  | succ k ih =>
    intro i acc hi h
    refine am_wp_go (am_d_cm _) (fun pc => Nat.beq pc 28) 60 ?_
    refine And.intro (fun c1 => ?_) (fun c1 => And.intro (fun c2 => ?_) (fun c2 => ?_))
    · have c1 : Int32.ofInt (st : Int) + Int32.ofInt (wd : Int) ≤ Int32.ofInt (i : Int) := c1
      rw [zadd, zle (by unfold zr; omega) (by unfold zr; omega)] at c1
      omega
    · have c2 : σ 23 5 ≤ Int32.ofInt (i : Int) := c2
      rw [ht, zle (by unfold zr; omega) (by unfold zr; omega)] at c2
      rw [lbs_out _ _ (by omega), Int.add_zero] at h
      exact h
    · have c2 : ¬ σ 23 5 ≤ Int32.ofInt (i : Int) := c2
      rw [ht, zle (by unfold zr; omega) (by unfold zr; omega)] at c2
      have hil : i < L.length := by omega
      have hq := h1 i L[i] (List.getElem?_eq_getElem hil)
      rw [Nat.zero_add] at hq
      have hq7 : L[i] < 7 := hL _ (List.getElem_mem hil)
      unfold lbs at h
      rw [dif_pos hil, ← Int.add_assoc] at h
      have key := ih (i + 1) (acc + lv p L[i]) (by omega) h
      rw [← zadd acc, ← hlv p hp _ hq7, show (((i + 1 : Nat) : Int)) = (i : Int) + 1 by omega, ← zadd (i : Int)] at key
      refine ixi p 7 hp ?_
      rcases (show p = 0 ∨ p = 1 ∨ p = 2 ∨ p = 3 ∨ p = 4 ∨ p = 5 ∨ p = 6 by omega) with rfl | rfl | rfl | rfl | rfl | rfl | rfl
      all_goals
        refine ixi i 7 (by omega) ?_
        refine ixi L[i] 7 hq7 ?_
        exact key
set_option maxRecDepth 100000 in
theorem s_loveBeside23 (d : Nat) {n w3 : Nat} {g : Nat → Nat × Nat} {σ : Nat → Nat → Int32} {τ : Nat → Nat → Int64} {r1 r2 : Nat} (Q : am_Q) {p seat wd : Nat} {lv : Nat → Nat → Int} {L : List Nat} (hp : p < 7) (hw1 : 1 ≤ wd) (hw : wd ≤ 4) (hse : seat < 7) (hwd : σ 12 2 = Int32.ofInt (wd : Int)) (hL : ∀ q ∈ L, q < 7) (hl : L.length ≤ 7) (ht : σ 23 5 = Int32.ofInt (L.length : Int)) (h1 : hol σ 25 0 L) (hlv : ∀ a, a < 7 → ∀ b, b < 7 → σ (14 + a) b = Int32.ofInt (lv a b))
    (h : Q (some (.int (Int32.ofInt (lbs lv L p (seat - seat % wd) wd)))) (lo_M n w3 g σ τ r1 r2)) : am_d (d + 2) 5 [.ref 23, .int (Int32.ofInt (p : Int)), .int (Int32.ofInt (seat : Int))] 0 0 (lo_M n w3 g σ τ r1 r2) Q := by
  refine am_goT T_X0_loveBeside [.ref 23, .int (Int32.ofInt (p : Int)), .int (Int32.ofInt (seat : Int)), .null, .null, .null, .null] rfl rfl (fun pc => Nat.beq pc 28) 60 ?_
  refine ixi 2 6 (by omega) ?_
  have e : (if Int32.ofInt 1 < σ 12 2 then σ 12 2 else Int32.ofInt 1) = Int32.ofInt (wd : Int) := by rw [hwd, zmax (by unfold zr; omega) (by unfold zr; omega), show max 1 (wd : Int) = wd by omega]
  show ¬ (if Int32.ofInt 1 < σ 12 2 then σ 12 2 else Int32.ofInt 1) = 0 ∧ _
  refine And.intro (by rw [e, zeq0 (by unfold zr; omega)]; omega) ?_
  have hsm : seat % wd ≤ seat := Nat.mod_le _ _
  have hst : Int32.ofInt (seat : Int) - (Int32.ofInt (seat : Int) - Int32.ofInt (seat : Int) / Int32.ofInt (wd : Int) * Int32.ofInt (wd : Int)) = Int32.ofInt ((seat - seat % wd : Nat) : Int) := by
    rw [zrem (by omega) (by omega) (by omega), zsub]
    congr 1
    omega
  have key := s_love_loop23 d Q (x2 := Int32.ofInt (seat : Int)) hp hw (show seat - seat % wd < 7 by omega) hL hl ht h1 hlv wd (seat - seat % wd) 0 rfl (by rw [Int.zero_add]; exact h)
  rw [← hst, ← e] at key
  exact key
set_option maxRecDepth 100000 in
/-- what one has in this church: seat, love beside, wet -/
theorem s_worth23 (d : Nat) {n w3 : Nat} {g : Nat → Nat × Nat} {σ : Nat → Nat → Int32} {τ : Nat → Nat → Int64} {r1 r2 : Nat} (Q : am_Q) {p wd gg mp wp : Nat} {st care soak : Int} {lv : Nat → Nat → Int} {pr : Nat → Int} {L : List Nat} (hp : p < 7) (hw1 : 1 ≤ wd) (hw : wd ≤ 4) (hgg : gg < 61) (hmp : mp < 61) (hwp : wp < 100) (hst : -1 ≤ st) (hst7 : st < 7) (hm : σ 7 p = Int32.ofInt (mp : Int)) (hwi : σ 8 p = Int32.ofInt (wp : Int)) (hpr : ∀ i, i < 61 → σ 10 i = Int32.ofInt (pr i)) (hso : σ 12 4 = Int32.ofInt soak) (hca : σ 12 3 = Int32.ofInt care) (hwd : σ 12 2 = Int32.ofInt (wd : Int)) (hs : σ 24 p = Int32.ofInt st) (hL : ∀ q ∈ L, q < 7) (hl : L.length ≤ 7) (ht : σ 23 5 = Int32.ofInt (L.length : Int)) (h1 : hol σ 25 0 L) (hlv : ∀ a, a < 7 → ∀ b, b < 7 → σ (14 + a) b = Int32.ofInt (lv a b))
    (h : Q (some (.int (Int32.ofInt (if st = -1 then -(soak * (pr gg - pr mp)) else 20 - care * ((st - wp).natAbs : Int) + lbs lv L p (st.toNat - st.toNat % wd) wd - soak * (pr gg - pr mp))))) (lo_M n w3 g σ τ r1 r2)) : am_d (d + 3) 4 [.ref 23, .int (Int32.ofInt (p : Int)), .int (Int32.ofInt (gg : Int))] 0 0 (lo_M n w3 g σ τ r1 r2) Q := by
  refine am_goT T_X0_worth [.ref 23, .int (Int32.ofInt (p : Int)), .int (Int32.ofInt (gg : Int)), .null, .null] rfl rfl (fun _ => false) 60 ?_
  refine ixi 4 6 (by omega) ?_
  refine ixi p 7 hp ?_
  show am_d (d + 2) 35 [.ref 9, .int (σ 7 p), .int (Int32.ofInt (gg : Int))] 0 0 _ _
  rw [hm]
  refine s_between (d + 1) _ _ _ ⟨rfl, hmp⟩ ⟨rfl, hgg⟩ ?_
  rw [hpr gg hgg, hpr mp hmp, zsub]
  refine ixi p 7 hp ?_
  by_cases hn : st = -1
  · rw [if_pos hn, ← zneg, ← zmul, ← hso] at h
    refine And.intro (fun c1 => ?_) (fun c1 => absurd (by show σ 24 p = Int32.ofInt (-1); rw [hs, hn]) c1)
    exact h
  · rw [if_neg hn] at h
    refine And.intro (fun c1 => absurd (show σ 24 p = Int32.ofInt (-1) from c1) (by rw [hs, zeq (by unfold zr; omega) (by unfold zr; omega)]; exact hn)) (fun c1 => ?_)
    refine ixi p 7 hp ?_
    show am_d (d + 2) 38 [.ref 11, .int (σ 24 p), .int (σ 8 p)] 0 0 _ _
    rw [hs, hwi]
    refine s_seatWorth (d + 1) _ hca (by omega) (by omega) ?_
    show am_d (d + 2) 5 [.ref 23, .int (Int32.ofInt (p : Int)), .int (σ 24 p)] 0 0 _ _
    rw [hs, show st = (st.toNat : Int) by omega]
    refine s_loveBeside23 d _ hp hw1 hw (by omega) hwd hL hl ht h1 hlv ?_
    rw [← zsub, ← zadd, ← zmul, ← hso] at h
    rw [show st = (st.toNat : Int) by omega] at h
    exact h
end
section
/-! what one has in the other church -/
set_option maxHeartbeats 2000000 in
set_option maxRecDepth 100000 in
theorem s_love_loop26 (d : Nat) {n w3 : Nat} {g : Nat → Nat × Nat} {σ : Nat → Nat → Int32} {τ : Nat → Nat → Int64} {r1 r2 : Nat} (Q : am_Q) {p st : Nat} {wd : Nat} {x2 : Int32} {lv : Nat → Nat → Int} {L : List Nat} (hp : p < 7) (hw : wd ≤ 4) (hst : st < 7) (hL : ∀ q ∈ L, q < 7) (hl : L.length ≤ 7) (ht : σ 26 5 = Int32.ofInt (L.length : Int)) (h1 : hol σ 28 0 L) (hlv : ∀ a, a < 7 → ∀ b, b < 7 → σ (14 + a) b = Int32.ofInt (lv a b)) : ∀ (k i : Nat) (acc : Int), i + k = st + wd →
    Q (some (.int (Int32.ofInt (acc + lbs lv L p i k)))) (lo_M n w3 g σ τ r1 r2) →
    am_wp (am_d (d + 1)) T_X0_loveBeside Q (28, [.ref 26, .int (Int32.ofInt (p : Int)), .int x2, .int (Int32.ofInt (wd : Int)), .int (Int32.ofInt (st : Int)), .int (Int32.ofInt acc), .int (Int32.ofInt (i : Int))], [], 0, 0) (lo_M n w3 g σ τ r1 r2) := by
  intro k
  induction k with
  | zero =>
    intro i acc hi h
    refine am_wp_go (am_d_cm _) (fun pc => Nat.beq pc 28) 60 ?_
    refine And.intro (fun c1 => ?_) (fun c1 => absurd ?_ c1)
    · unfold lbs at h
      rw [Int.add_zero] at h
      exact h
    · show Int32.ofInt (st : Int) + Int32.ofInt (wd : Int) ≤ Int32.ofInt (i : Int)
      rw [zadd, zle (by unfold zr; omega) (by unfold zr; omega)]
      omega
  | succ k ih =>
    intro i acc hi h
    refine am_wp_go (am_d_cm _) (fun pc => Nat.beq pc 28) 60 ?_
    refine And.intro (fun c1 => ?_) (fun c1 => And.intro (fun c2 => ?_) (fun c2 => ?_))
    · have c1 : Int32.ofInt (st : Int) + Int32.ofInt (wd : Int) ≤ Int32.ofInt (i : Int) := c1
      rw [zadd, zle (by unfold zr; omega) (by unfold zr; omega)] at c1
      omega
    · have c2 : σ 26 5 ≤ Int32.ofInt (i : Int) := c2
      rw [ht, zle (by unfold zr; omega) (by unfold zr; omega)] at c2
      rw [lbs_out _ _ (by omega), Int.add_zero] at h
      exact h
    · have c2 : ¬ σ 26 5 ≤ Int32.ofInt (i : Int) := c2
      rw [ht, zle (by unfold zr; omega) (by unfold zr; omega)] at c2
      have hil : i < L.length := by omega
      have hq := h1 i L[i] (List.getElem?_eq_getElem hil)
      rw [Nat.zero_add] at hq
      have hq7 : L[i] < 7 := hL _ (List.getElem_mem hil)
      unfold lbs at h
      rw [dif_pos hil, ← Int.add_assoc] at h
      have key := ih (i + 1) (acc + lv p L[i]) (by omega) h
      rw [← zadd acc, ← hlv p hp _ hq7, show (((i + 1 : Nat) : Int)) = (i : Int) + 1 by omega, ← zadd (i : Int)] at key
      refine ixi p 7 hp ?_
      rcases (show p = 0 ∨ p = 1 ∨ p = 2 ∨ p = 3 ∨ p = 4 ∨ p = 5 ∨ p = 6 by omega) with rfl | rfl | rfl | rfl | rfl | rfl | rfl
      all_goals
        refine ixi i 7 (by omega) ?_
        refine ixi L[i] 7 hq7 ?_
        exact key
set_option maxRecDepth 100000 in
theorem s_loveBeside26 (d : Nat) {n w3 : Nat} {g : Nat → Nat × Nat} {σ : Nat → Nat → Int32} {τ : Nat → Nat → Int64} {r1 r2 : Nat} (Q : am_Q) {p seat wd : Nat} {lv : Nat → Nat → Int} {L : List Nat} (hp : p < 7) (hw1 : 1 ≤ wd) (hw : wd ≤ 4) (hse : seat < 7) (hwd : σ 12 2 = Int32.ofInt (wd : Int)) (hL : ∀ q ∈ L, q < 7) (hl : L.length ≤ 7) (ht : σ 26 5 = Int32.ofInt (L.length : Int)) (h1 : hol σ 28 0 L) (hlv : ∀ a, a < 7 → ∀ b, b < 7 → σ (14 + a) b = Int32.ofInt (lv a b))
    (h : Q (some (.int (Int32.ofInt (lbs lv L p (seat - seat % wd) wd)))) (lo_M n w3 g σ τ r1 r2)) : am_d (d + 2) 5 [.ref 26, .int (Int32.ofInt (p : Int)), .int (Int32.ofInt (seat : Int))] 0 0 (lo_M n w3 g σ τ r1 r2) Q := by
  refine am_goT T_X0_loveBeside [.ref 26, .int (Int32.ofInt (p : Int)), .int (Int32.ofInt (seat : Int)), .null, .null, .null, .null] rfl rfl (fun pc => Nat.beq pc 28) 60 ?_
  refine ixi 2 6 (by omega) ?_
  have e : (if Int32.ofInt 1 < σ 12 2 then σ 12 2 else Int32.ofInt 1) = Int32.ofInt (wd : Int) := by rw [hwd, zmax (by unfold zr; omega) (by unfold zr; omega), show max 1 (wd : Int) = wd by omega]
  show ¬ (if Int32.ofInt 1 < σ 12 2 then σ 12 2 else Int32.ofInt 1) = 0 ∧ _
  refine And.intro (by rw [e, zeq0 (by unfold zr; omega)]; omega) ?_
  have hsm : seat % wd ≤ seat := Nat.mod_le _ _
  have hst : Int32.ofInt (seat : Int) - (Int32.ofInt (seat : Int) - Int32.ofInt (seat : Int) / Int32.ofInt (wd : Int) * Int32.ofInt (wd : Int)) = Int32.ofInt ((seat - seat % wd : Nat) : Int) := by
    rw [zrem (by omega) (by omega) (by omega), zsub]
    congr 1
    omega
  have key := s_love_loop26 d Q (x2 := Int32.ofInt (seat : Int)) hp hw (show seat - seat % wd < 7 by omega) hL hl ht h1 hlv wd (seat - seat % wd) 0 rfl (by rw [Int.zero_add]; exact h)
  rw [← hst, ← e] at key
  exact key
set_option maxRecDepth 100000 in
/-- what one has in this church: seat, love beside, wet -/
theorem s_worth26 (d : Nat) {n w3 : Nat} {g : Nat → Nat × Nat} {σ : Nat → Nat → Int32} {τ : Nat → Nat → Int64} {r1 r2 : Nat} (Q : am_Q) {p wd gg mp wp : Nat} {st care soak : Int} {lv : Nat → Nat → Int} {pr : Nat → Int} {L : List Nat} (hp : p < 7) (hw1 : 1 ≤ wd) (hw : wd ≤ 4) (hgg : gg < 61) (hmp : mp < 61) (hwp : wp < 100) (hst : -1 ≤ st) (hst7 : st < 7) (hm : σ 7 p = Int32.ofInt (mp : Int)) (hwi : σ 8 p = Int32.ofInt (wp : Int)) (hpr : ∀ i, i < 61 → σ 10 i = Int32.ofInt (pr i)) (hso : σ 12 4 = Int32.ofInt soak) (hca : σ 12 3 = Int32.ofInt care) (hwd : σ 12 2 = Int32.ofInt (wd : Int)) (hs : σ 27 p = Int32.ofInt st) (hL : ∀ q ∈ L, q < 7) (hl : L.length ≤ 7) (ht : σ 26 5 = Int32.ofInt (L.length : Int)) (h1 : hol σ 28 0 L) (hlv : ∀ a, a < 7 → ∀ b, b < 7 → σ (14 + a) b = Int32.ofInt (lv a b))
    (h : Q (some (.int (Int32.ofInt (if st = -1 then -(soak * (pr gg - pr mp)) else 20 - care * ((st - wp).natAbs : Int) + lbs lv L p (st.toNat - st.toNat % wd) wd - soak * (pr gg - pr mp))))) (lo_M n w3 g σ τ r1 r2)) : am_d (d + 3) 4 [.ref 26, .int (Int32.ofInt (p : Int)), .int (Int32.ofInt (gg : Int))] 0 0 (lo_M n w3 g σ τ r1 r2) Q := by
  refine am_goT T_X0_worth [.ref 26, .int (Int32.ofInt (p : Int)), .int (Int32.ofInt (gg : Int)), .null, .null] rfl rfl (fun _ => false) 60 ?_
  refine ixi 4 6 (by omega) ?_
  refine ixi p 7 hp ?_
  show am_d (d + 2) 35 [.ref 9, .int (σ 7 p), .int (Int32.ofInt (gg : Int))] 0 0 _ _
  rw [hm]
  refine s_between (d + 1) _ _ _ ⟨rfl, hmp⟩ ⟨rfl, hgg⟩ ?_
  rw [hpr gg hgg, hpr mp hmp, zsub]
  refine ixi p 7 hp ?_
  by_cases hn : st = -1
  · rw [if_pos hn, ← zneg, ← zmul, ← hso] at h
    refine And.intro (fun c1 => ?_) (fun c1 => absurd (by show σ 27 p = Int32.ofInt (-1); rw [hs, hn]) c1)
    exact h
  · rw [if_neg hn] at h
    refine And.intro (fun c1 => absurd (show σ 27 p = Int32.ofInt (-1) from c1) (by rw [hs, zeq (by unfold zr; omega) (by unfold zr; omega)]; exact hn)) (fun c1 => ?_)
    refine ixi p 7 hp ?_
    show am_d (d + 2) 38 [.ref 11, .int (σ 27 p), .int (σ 8 p)] 0 0 _ _
    rw [hs, hwi]
    refine s_seatWorth (d + 1) _ hca (by omega) (by omega) ?_
    show am_d (d + 2) 5 [.ref 26, .int (Int32.ofInt (p : Int)), .int (σ 27 p)] 0 0 _ _
    rw [hs, show st = (st.toNat : Int) by omega]
    refine s_loveBeside26 d _ hp hw1 hw (by omega) hwd hL hl ht h1 hlv ?_
    rw [← zsub, ← zadd, ← zmul, ← hso] at h
    rw [show st = (st.toNat : Int) by omega] at h
    exact h
end
section
/-! who sits where, what one has: the class -/
theorem fL_congr {lw bell : Int} {gs gs' : Nat → Int} {mem mem' : Nat → Bool} : ∀ (p : Nat), (∀ q, q < p → gs q = gs' q ∧ mem q = mem' q) → fL lw bell gs mem p = fL lw bell gs' mem' p
  | 0, _ => rfl
  | p + 1, h => by
    have ih := fL_congr (lw := lw) (bell := bell) p (fun q hq => h q (by omega))
    unfold fL
    rw [ih, (h p (by omega)).1, (h p (by omega)).2]
    split
    · have key : ∀ (R L2 : List Nat), (∀ q ∈ R, q < p) → insL (fun q => mvs lw (gs q) (gs' p)) p R L2 = insL (fun q => mvs lw (gs' q) (gs' p)) p R L2 := by
        intro R
        induction R with
        | nil => intro L2 _; rfl
        | cons q R ihR =>
          intro L2 hR
          unfold insL
          rw [(h q (by have := hR q List.mem_cons_self; omega)).1, ihR (q :: L2) (fun q hq => hR q (List.mem_cons_of_mem _ hq))]
      exact key _ _ (fun q hq => fL_lt p q (List.mem_reverse.mp hq))
    · rfl
/-- the sitters, where each waits w -/
def SL (A : aN) (lw : Nat) (mem : Nat → Bool) (w : Nat → Nat) : List Nat := fL (lw : Int) (A 3 0 : Int) (fun q => (gin A q (w q) : Int)) mem (cnt A)
/-- what one has, who sits on st (or NONE) among L, and goes in at gg -/
def WZ (A : aN) (L : List Nat) (st : Int) (p gg : Nat) : Int := if st = -1 then -((A 3 4 : Int) * ((prz (A 2) gg : Int) - (prz (A 2) (mn A p) : Int))) else 20 - (A 3 3 : Int) * ((st - (wsh A p : Int)).natAbs : Int) + lbs (fun a b => (A (20 + a) b : Int)) L p (st.toNat - st.toNat % (A 3 2)) (A 3 2) - (A 3 4 : Int) * ((prz (A 2) gg : Int) - (prz (A 2) (mn A p) : Int))
def HZ (A : aN) (lw : Nat) (mem : Nat → Bool) (w : Nat → Nat) (p : Nat) : Int := WZ A (SL A lw mem w) (seatZ (SL A lw mem w) p) p (gin A p (w p))
theorem lastZ_rng {q : Nat} : ∀ (L : List Nat) (j r : Int), -1 ≤ r → r < j → 0 ≤ j → -1 ≤ lastZ q L j r ∧ lastZ q L j r < j + L.length
  | [], j, r, h1, h2, h3 => by
    unfold lastZ
    simp
    omega
  | x :: L, j, r, h1, h2, h3 => by
    unfold lastZ
    have := lastZ_rng (q := q) L (j + 1) (if q = x then j else r) (by split <;> omega) (by split <;> omega) (by omega)
    simp only [List.length_cons]
    omega
theorem seatZ_rng (L : List Nat) (q : Nat) : -1 ≤ seatZ L q ∧ seatZ L q < L.length := by
  have := lastZ_rng (q := q) L 0 (-1) (by omega) (by omega) (by omega)
  unfold seatZ
  omega
def bitk (k p : Nat) : Bool := Nat.beq (k / 2 ^ p % 2) 1
theorem bitk_eq : ∀ k : Nat, k < 128 → ∀ p : Nat, p < 7 → ((Int32.ofInt (k : Int) >>> (Int32.ofInt (p : Int) &&& 31)) &&& Int32.ofInt 1 = Int32.ofInt 1 ↔ bitk k p = true) := by decide +kernel
theorem bitk_all : ∀ n : Nat, n < 8 → ∀ p : Nat, p < n → bitk (2 ^ n - 1) p = true := by decide +kernel
theorem all_eq : ∀ n : Nat, n < 8 → (Int32.ofInt 1 <<< (Int32.ofInt (n : Int) &&& 31)) - Int32.ofInt 1 = Int32.ofInt ((2 ^ n - 1 : Nat) : Int) := by decide +kernel
section SE
variable {n w3 : Nat} {g : Nat → Nat × Nat} {σ : Nat → Nat → Int32} {τ : Nat → Nat → Int64} {r1 r2 : Nat} {A : aN} {B : aZ}
theorem s_withinZ (d : Nat) {v lo hi : Int} (hv : zr v) (hlo : zr lo) (hhi : zr hi) (M : am_M) (Q : am_Q) (h : Q (some (.int (if lo ≤ v ∧ v ≤ hi then 1 else 0))) M) : am_d (d + 1) 88 [.int (Int32.ofInt v), .int (Int32.ofInt lo), .int (Int32.ofInt hi)] 0 0 M Q := by
  refine s_within d _ _ _ M Q ?_
  have e : (Int32.ofInt lo ≤ Int32.ofInt v ∧ Int32.ofInt v ≤ Int32.ofInt hi) ↔ (lo ≤ v ∧ v ≤ hi) := by rw [zle hlo hv, zle hv hhi]
  by_cases c : lo ≤ v ∧ v ≤ hi
  · rw [if_pos (e.mpr c)]
    rw [if_pos c] at h
    exact h
  · rw [if_neg (fun q => c (e.mp q))]
    rw [if_neg c] at h
    exact h
set_option maxRecDepth 100000 in
theorem s_isThere (d : Nat) (Q : am_Q) {v : Int} {N : Nat} (hv : zr v) (hN : N ≤ 7) (hn : σ 5 4 = Int32.ofInt (N : Int)) (h : Q (some (.int (if 0 ≤ v ∧ v < N then 1 else 0))) (lo_M n w3 g σ τ r1 r2)) : am_d (d + 2) 92 [.ref 4, .int (Int32.ofInt v)] 0 0 (lo_M n w3 g σ τ r1 r2) Q := by
  refine am_goT T_X9_isThere [.ref 4, .int (Int32.ofInt v)] rfl rfl (fun _ => false) 30 ?_
  show am_d (d + 1) 88 [.int (Int32.ofInt v), .int (Int32.ofInt 0), .int (σ 5 4 - Int32.ofInt 1)] 0 0 _ _
  rw [hn, zsub]
  refine s_withinZ d hv (by unfold zr; omega) (by unfold zr; omega) _ _ ?_
  by_cases c : 0 ≤ v ∧ v < N
  · rw [if_pos (by omega)]
    rw [if_pos c] at h
    exact And.intro (Or.inr rfl) h
  · rw [if_neg (by omega)]
    rw [if_neg c] at h
    exact And.intro (Or.inl rfl) h
set_option maxRecDepth 100000 in
theorem s_minuteInside (d : Nat) (Q : am_Q) {p m w : Nat} (hp : p < 7) (hm : σ 7 p = Int32.ofInt (m : Int)) (hm2 : m ≤ 1000) (hw : w ≤ 1000) (h : Q (some (.int (Int32.ofInt ((min 59 (m + w) : Nat) : Int)))) (lo_M n w3 g σ τ r1 r2)) : am_d (d + 1) 95 [.ref 4, .int (Int32.ofInt (p : Int)), .int (Int32.ofInt (w : Int))] 0 0 (lo_M n w3 g σ τ r1 r2) Q := by
  have e : (if σ 7 p + Int32.ofInt (w : Int) < Int32.ofInt 59 then σ 7 p + Int32.ofInt (w : Int) else Int32.ofInt 59) = Int32.ofInt ((min 59 (m + w) : Nat) : Int) := by
    rw [hm, zadd, zmin (by unfold zr; omega) (by unfold zr; omega)]
    congr 1
    omega
  rw [← e] at h
  refine am_goT T_X9_minuteInside [.ref 4, .int (Int32.ofInt (p : Int)), .int (Int32.ofInt (w : Int))] rfl rfl (fun _ => false) 30 ?_
  refine ixi p 7 hp ?_
  exact h
set_option maxRecDepth 100000 in
theorem s_gather_loop (d : Nat) (Q : am_Q) {N : Nat} {ms ws : Nat → Nat} (hN : N ≤ 7) : ∀ (k p : Nat) (σ : Nat → Nat → Int32), p + k = N → σ 5 4 = Int32.ofInt (N : Int) → (∀ q, q < N → σ 7 q = Int32.ofInt (ms q : Int) ∧ ms q ≤ 1000) → (∀ q, q < N → σ 21 q = Int32.ofInt (ws q : Int) ∧ ws q ≤ 1000) →
    (∀ σ' : Nat → Nat → Int32, (∀ c, c ≠ 22 → σ' c = σ c) → (∀ q, σ' 22 q = if p ≤ q ∧ q < N then Int32.ofInt ((min 59 (ms q + ws q) : Nat) : Int) else σ 22 q) → Q none (lo_M n w3 g σ' τ r1 r2)) →
    am_wp (am_d (d + 1)) T_X9_gather Q (2, [.ref 4, .int (Int32.ofInt (p : Int))], [], 0, 0) (lo_M n w3 g σ τ r1 r2) := by
  intro k
  induction k with
  | zero =>
    intro p σ hp hn hm hw h
    refine am_wp_go (am_d_cm _) (fun pc => Nat.beq pc 2) 60 ?_
    refine And.intro (fun c1 => ?_) (fun c1 => absurd ?_ c1)
    · exact h σ (fun _ _ => rfl) (fun q => by rw [if_neg (by omega)])
    · show σ 5 4 ≤ Int32.ofInt (p : Int)
      rw [hn, zle (by unfold zr; omega) (by unfold zr; omega)]
      omega
  | succ k ih =>
    intro p σ hp hn hm hw h
    refine am_wp_go (am_d_cm _) (fun pc => Nat.beq pc 2) 60 ?_
    refine And.intro (fun c1 => ?_) (fun c1 => ?_)
    · have c1 : σ 5 4 ≤ Int32.ofInt (p : Int) := c1
      rw [hn, zle (by unfold zr; omega) (by unfold zr; omega)] at c1
      omega
    · refine ixi p 7 (by omega) ?_
      show am_d (d + 1) 95 [.ref 4, .int (Int32.ofInt (p : Int)), .int (σ 21 p)] 0 0 _ _
      rw [(hw p (by omega)).1]
      refine s_minuteInside d _ (by omega) (hm p (by omega)).1 (hm p (by omega)).2 (hw p (by omega)).2 ?_
      refine ixi p 7 (by omega) ?_
      show am_wp _ _ _ (2, [.ref 4, .int (Int32.ofInt (p : Int) + Int32.ofInt 1)], [], 0, 0) (lo_M n w3 g (am_u σ 22 p (Int32.ofInt ((min 59 (ms p + ws p) : Nat) : Int))) τ r1 r2)
      rw [zadd, show ((p : Int) + 1) = ((p + 1 : Nat) : Int) by omega]
      refine ih (p + 1) _ (by omega) hn hm hw (fun σ' k1 k2 => h σ' (fun c hc => by rw [k1 c hc, am_u_ne hc]) (fun q => ?_))
      rw [k2 q, am_u_at]
      by_cases e : q = p
      · subst e
        rw [if_neg (by omega), if_pos rfl, if_pos (by omega)]
      · by_cases e2 : p + 1 ≤ q ∧ q < N
        · rw [if_pos e2, if_pos (by omega)]
        · rw [if_neg e2, if_neg e, if_neg (by omega)]
set_option maxRecDepth 100000 in
theorem s_gather (d : Nat) (Q : am_Q) (hP : ixP A σ) (hW : ixW A σ) (hwt : ∀ p, A 4 p ≤ 59)
    (h : ∀ σ' : Nat → Nat → Int32, (∀ c, c ≠ 22 → σ' c = σ c) → (∀ q, σ' 22 q = if q < cnt A then Int32.ofInt (gin A q (A 4 q) : Int) else σ 22 q) → Q none (lo_M n w3 g σ' τ r1 r2)) : am_d (d + 2) 96 [.ref 4] 0 0 (lo_M n w3 g σ τ r1 r2) Q := by
  refine am_goT T_X9_gather [.ref 4, .null] rfl rfl (fun pc => Nat.beq pc 2) 30 ?_
  refine s_gather_loop d Q (cnt_le A) (ms := mn A) (ws := A 4) (cnt A) 0 σ (by omega) hP.2.2.1 (fun q hq => ⟨(hP.2.2.2.2 q hq).1, by have := mn_lt hq; omega⟩) (fun q hq => ⟨hW q (by have := cnt_le A; omega), by have := hwt q; omega⟩) (fun σ' k1 k2 => h σ' k1 (fun q => ?_))
  rw [k2 q]
  by_cases e : q < cnt A
  · rw [if_pos ⟨Nat.zero_le _, e⟩, if_pos e]
    rfl
  · rw [if_neg (fun z => e z.2), if_neg e]
set_option maxRecDepth 100000 in
theorem s_everybody (d : Nat) (Q : am_Q) {N : Nat} (hN : N ≤ 7) (hn : σ 5 4 = Int32.ofInt (N : Int)) (h : Q (some (.int (Int32.ofInt ((2 ^ N - 1 : Nat) : Int)))) (lo_M n w3 g σ τ r1 r2)) : am_d (d + 1) 98 [.ref 4] 0 0 (lo_M n w3 g σ τ r1 r2) Q := by
  rw [← all_eq N (by omega), ← hn] at h
  refine am_goT T_X9_everybody [.ref 4] rfl rfl (fun _ => false) 30 ?_
  exact h
/-- the church is filled by what stands in goingIn -/
theorem s_fillA (d : Nat) (Q : am_Q) {mask lw : Nat} {mem : Nat → Bool} {w : Nat → Nat} (hlw : lw ≤ 1) (hmk : mask < 128) (hmem : ∀ p, p < cnt A → bitk mask p = mem p) (hP : ixP A σ) (hS : ixS A σ) (hb60 : A 3 0 ≤ 60) (hg : ∀ q, q < cnt A → σ 22 q = Int32.ofInt (gin A q (w q) : Int))
    (h : ∀ σ' : Nat → Nat → Int32, (∀ c, c ≠ 23 → c ≠ 24 → c ≠ 25 → σ' c = σ c) → (∀ i, i ≠ 5 → σ' 23 i = σ 23 i) → σ' 23 5 = Int32.ofInt ((SL A lw mem w).length : Int) → hol σ' 25 0 (SL A lw mem w) → (∀ q, q < cnt A → σ' 24 q = Int32.ofInt (seatZ (SL A lw mem w) q)) → Q none (lo_M n w3 g σ' τ r1 r2)) :
    am_d (d + 3) 1 [.ref 23, .ref 22, .int (Int32.ofInt (mask : Int)), .int (Int32.ofInt (lw : Int))] 0 0 (lo_M n w3 g σ τ r1 r2) Q := by
  have hN := cnt_le A
  have hc : fL (lw : Int) (A 3 0 : Int) (fun q => if q < cnt A then (gin A q (w q) : Int) else (σ 22 q).toInt) mem (cnt A) = SL A lw mem w := fL_congr (cnt A) (fun q hq => ⟨if_pos hq, rfl⟩)
  have := s_fill23 d Q (N := cnt A) (mk := Int32.ofInt (mask : Int)) (lw := (lw : Int)) (bell := (A 3 0 : Int)) (gs := fun q => if q < cnt A then (gin A q (w q) : Int) else (σ 22 q).toInt) (mem := mem) (σ := σ) (n := n) (w3 := w3) (g := g) (τ := τ) (r1 := r1) (r2 := r2) hN (by unfold zr; omega) (by unfold zr; omega) (fun q _ => by
      show zr (if q < cnt A then (gin A q (w q) : Int) else (σ 22 q).toInt)
      split
      · unfold zr gin; omega
      · exact zrof _) (fun p hp => by rw [bitk_eq mask hmk p (by omega), hmem p hp]) hP.2.2.1 (hS 0 (by omega)) (fun q _ => by
      show σ 22 q = Int32.ofInt (if q < cnt A then (gin A q (w q) : Int) else (σ 22 q).toInt)
      split
      · next hq => exact hg q hq
      · exact zof _)
  rw [hc] at this
  exact this h
set_option maxRecDepth 100000 in
/-- all go in as told -/
theorem s_seatAll (d : Nat) (Q : am_Q) (hx : IX A B σ) (hwf : WF A B)
    (h : ∀ σ' : Nat → Nat → Int32, (∀ c, c ≠ 22 → c ≠ 23 → c ≠ 24 → c ≠ 25 → σ' c = σ c) → (∀ i, i ≠ 5 → σ' 23 i = σ 23 i) → (∀ q, σ' 22 q = if q < cnt A then Int32.ofInt (gin A q (A 4 q) : Int) else σ 22 q) → σ' 23 5 = Int32.ofInt ((SL A (A 3 1) (fun _ => true) (A 4)).length : Int) → hol σ' 25 0 (SL A (A 3 1) (fun _ => true) (A 4)) → (∀ q, q < cnt A → σ' 24 q = Int32.ofInt (seatZ (SL A (A 3 1) (fun _ => true) (A 4)) q)) → Q none (lo_M n w3 g σ' τ r1 r2)) : am_d (d + 4) 97 [.ref 4] 0 0 (lo_M n w3 g σ τ r1 r2) Q := by
  obtain ⟨hP, hR, hS, hL, hW, hF, hU, hH, hl⟩ := hx
  have hN := cnt_le A
  refine am_goT T_X9_seatAll [.ref 4] rfl rfl (fun _ => false) 60 ?_
  refine s_gather (d + 1) _ hP hW hwf.2.2.2.2.1 (fun σ1 k1 k2 => ?_)
  have hP1 : ixP A σ1 := by unfold ixP; rw [k1 5 (by decide), k1 6 (by decide), k1 7 (by decide), k1 8 (by decide)]; exact hP
  have hS1 : ixS A σ1 := by unfold ixS; rw [k1 12 (by decide)]; exact hS
  refine s_everybody (d + 2) _ hN hP1.2.2.1 ?_
  refine ixi 1 6 (by omega) ?_
  show am_d (d + 3) 1 [.ref 23, .ref 22, .int (Int32.ofInt ((2 ^ cnt A - 1 : Nat) : Int)), .int (σ1 12 1)] 0 0 _ _
  rw [hS1 1 (by omega)]
  have h2 : 2 ^ cnt A ≤ 2 ^ 7 := Nat.pow_le_pow_right (by omega) hN
  refine s_fillA d _ (mem := fun _ => true) (w := A 4) hwf.2.2.2.1.2.1 (by omega) (fun p hp => bitk_all _ (by omega) p hp) hP1 hS1 hwf.2.2.2.1.1 (fun q hq => by rw [k2 q, if_pos hq]) (fun σ' j1 j2 j3 j4 j5 => ?_)
  exact h σ' (fun c e1 e2 e3 e4 => by rw [j1 c e2 e3 e4, k1 c e1]) (fun i hi => by rw [j2 i hi, k1 23 (by decide)]) (fun q => by rw [j1 22 (by decide) (by decide) (by decide)]; exact k2 q) j3 j4 j5
end SE
end
section
/-! seat, who, has, best: the class -/
theorem prz_le {rn : Nat → Nat} (h : ∀ j, rn j ≤ 1) : ∀ m, prz rn m ≤ m
  | 0 => Nat.le_refl _
  | m + 1 => by
    have := prz_le h m
    have := h m
    unfold prz
    omega
theorem prz_mono {rn : Nat → Nat} {a : Nat} : ∀ b, a ≤ b → prz rn a ≤ prz rn b
  | 0, h => by
    have : a = 0 := by omega
    subst this
    exact Nat.le_refl _
  | b + 1, h => by
    by_cases e : a = b + 1
    · subst e; exact Nat.le_refl _
    · have := prz_mono (rn := rn) b (show a ≤ b by omega)
      show prz rn a ≤ prz rn b + rn b
      omega
theorem lbs_rng {lv : Nat → Nat → Int} {L : List Nat} {p : Nat} (h : ∀ a b, 0 ≤ lv a b ∧ lv a b ≤ 20) : ∀ (k i : Nat), 0 ≤ lbs lv L p i k ∧ lbs lv L p i k ≤ 20 * k
  | 0, i => by simp [lbs]
  | k + 1, i => by
    unfold lbs
    split
    · next hi =>
      have := lbs_rng (L := L) (p := p) h k (i + 1)
      have := h p L[i]
      omega
    · omega
theorem mul9 (a : Nat) (h : a ≤ 9) (x K : Int) (h1 : -K ≤ x) (h2 : x ≤ K) : -(9 * K) ≤ (a : Int) * x ∧ (a : Int) * x ≤ 9 * K := by
  rcases (show a = 0 ∨ a = 1 ∨ a = 2 ∨ a = 3 ∨ a = 4 ∨ a = 5 ∨ a = 6 ∨ a = 7 ∨ a = 8 ∨ a = 9 by omega) with rfl | rfl | rfl | rfl | rfl | rfl | rfl | rfl | rfl | rfl
  all_goals omega
theorem WZ_rng {A : aN} {B : aZ} (hwf : WF A B) {L : List Nat} {st : Int} {p gg : Nat} (hp : p < cnt A) (hgg : gg ≤ 60) (h1 : -1 ≤ st) (h2 : st < 7) : -1000 ≤ WZ A L st p gg ∧ WZ A L st p gg ≤ 1000 := by
  obtain ⟨-, -, hr, ⟨-, -, ⟨-, w4⟩, c9, s9, -⟩, -, hl, -⟩ := hwf
  have a1 := prz_le hr gg
  have a2 := prz_le hr (mn A p)
  have a3 := mn_lt hp
  have a4 := wsh_lt hp
  have b1 := mul9 (A 3 4) s9 ((prz (A 2) gg : Int) - (prz (A 2) (mn A p) : Int)) 60 (by omega) (by omega)
  have b3 := mul9 (A 3 3) c9 ((st - (wsh A p : Int)).natAbs : Int) 10 (by omega) (by omega)
  have b5 := lbs_rng (lv := fun a b => (A (20 + a) b : Int)) (L := L) (p := p) (fun a b => by have := hl a b; omega) (A 3 2) (st.toNat - st.toNat % A 3 2)
  unfold WZ
  split <;> omega
theorem SL_lt {A : aN} {lw : Nat} {mem : Nat → Bool} {w : Nat → Nat} : ∀ q ∈ SL A lw mem w, q < cnt A := fun q hq => fL_lt _ q hq
theorem SL_len (A : aN) (lw : Nat) (mem : Nat → Bool) (w : Nat → Nat) : (SL A lw mem w).length ≤ 7 := Nat.le_trans (fL_len _) (cnt_le A)
theorem seat7 (A : aN) (lw : Nat) (mem : Nat → Bool) (w : Nat → Nat) (q : Nat) : -1 ≤ seatZ (SL A lw mem w) q ∧ seatZ (SL A lw mem w) q < 7 := by
  have h1 := seatZ_rng (SL A lw mem w) q
  have h2 := SL_len A lw mem w
  omega
theorem lastZ_at {q : Nat} : ∀ (L : List Nat) (j r : Int), lastZ q L j r = r ∨ ∃ k : Nat, L[k]? = some q ∧ lastZ q L j r = j + k
  | [], j, r => Or.inl rfl
  | x :: L, j, r => by
    unfold lastZ
    rcases lastZ_at (q := q) L (j + 1) (if q = x then j else r) with h | ⟨k, h1, h2⟩
    · by_cases e : q = x
      · right
        refine ⟨0, by rw [e]; rfl, ?_⟩
        rw [h, if_pos e]
        simp
      · left
        rw [h, if_neg e]
    · right
      refine ⟨k + 1, h1, ?_⟩
      rw [h2]
      omega
theorem seatZ_at {L : List Nat} {q : Nat} (h : seatZ L q ≠ -1) : L[(seatZ L q).toNat]? = some q := by
  rcases lastZ_at (q := q) L 0 (-1) with h1 | ⟨k, h1, h2⟩
  · exact absurd h1 h
  · unfold seatZ
    rw [h2]
    simpa using h1
section HA
variable {n w3 : Nat} {g : Nat → Nat × Nat} {σ : Nat → Nat → Int32} {τ : Nat → Nat → Int64} {r1 r2 : Nat} {A : aN} {B : aZ}
/-- what one has in the church as it is filled now -/
theorem s_worthA (d : Nat) (Q : am_Q) {L : List Nat} {st : Int} {p gg : Nat} (hwf : WF A B) (hp : p < cnt A) (hgg : gg ≤ 60) (hP : ixP A σ) (hR : ixR A σ) (hS : ixS A σ) (hL : ixL A σ) (hL7 : ∀ q ∈ L, q < 7) (hlen : L.length ≤ 7) (ht : σ 23 5 = Int32.ofInt (L.length : Int)) (h1 : hol σ 25 0 L) (hs : σ 24 p = Int32.ofInt st) (hst1 : -1 ≤ st) (hst2 : st < 7) (h : Q (some (.int (Int32.ofInt (WZ A L st p gg)))) (lo_M n w3 g σ τ r1 r2)) : am_d (d + 3) 4 [.ref 23, .int (Int32.ofInt (p : Int)), .int (Int32.ofInt (gg : Int))] 0 0 (lo_M n w3 g σ τ r1 r2) Q := by
  have hc := cnt_le A
  have hm := mn_lt hp
  have hws := wsh_lt hp
  obtain ⟨-, -, hr, ⟨-, -, ⟨w1, w4⟩, c9, s9, -⟩, -, hl, -⟩ := hwf
  exact s_worth23 d Q (wd := A 3 2) (mp := mn A p) (wp := wsh A p) (care := (A 3 3 : Int)) (soak := (A 3 4 : Int)) (lv := fun a b => (A (20 + a) b : Int)) (pr := fun m => (prz (A 2) m : Int)) (by omega) w1 w4 (by omega) (by omega) (by omega) hst1 hst2 (hP.2.2.2.2 p hp).1 (hP.2.2.2.2 p hp).2 hR (hS 4 (by omega)) (hS 3 (by omega)) (hS 2 (by omega)) hs hL7 hlen ht h1 hL h
def f_seat (A : aN) (z : Int) : Int := if 0 ≤ z ∧ z < cnt A then seatZ (SL A (A 3 1) (fun _ => true) (A 4)) z.toNat else -2
set_option maxRecDepth 100000 in
theorem c_seat (d : Nat) (Q : am_Q) {z : Int} (hz : zr z) (hx : IX A B σ) (hwf : WF A B)
    (h : ∀ σ' : Nat → Nat → Int32, (∀ c, c ≠ 22 → c ≠ 23 → c ≠ 24 → c ≠ 25 → σ' c = σ c) → (∀ i, i ≠ 5 → σ' 23 i = σ 23 i) → Q (some (.int (Int32.ofInt (f_seat A z)))) (lo_M n w3 g σ' τ r1 r2)) : am_d (d + 5) 61 [.ref 4, .int (Int32.ofInt z)] 0 0 (lo_M n w3 g σ τ r1 r2) Q := by
  have hc := cnt_le A
  refine am_goT T_X9_seat [.ref 4, .int (Int32.ofInt z)] rfl rfl (fun _ => false) 60 ?_
  refine s_isThere (d + 2) _ hz hc hx.1.2.2.1 ?_
  by_cases c : 0 ≤ z ∧ z < cnt A
  · rw [if_pos c]
    refine And.intro (fun q => absurd q (by decide)) (fun _ => ?_)
    refine s_seatAll d _ hx hwf (fun σ' k1 k2 k3 k4 k5 k6 => ?_)
    refine ixi z.toNat 7 (by omega) ?_ (by congr 1; omega)
    have h := h σ' k1 k2
    unfold f_seat at h
    rw [if_pos c, ← k6 _ (by omega)] at h
    exact h
  · rw [if_neg c]
    refine And.intro (fun _ => ?_) (fun q => absurd rfl q)
    have h := h σ (fun _ _ _ _ _ => rfl) (fun _ _ => rfl)
    unfold f_seat at h
    rw [if_neg c] at h
    exact h
def f_who (A : aN) (z : Int) : Int := if 0 ≤ z ∧ z ≤ 6 then (match (SL A (A 3 1) (fun _ => true) (A 4))[z.toNat]? with | some q => (q : Int) | none => -1) else -2
set_option maxRecDepth 100000 in
theorem c_who (d : Nat) (Q : am_Q) {z : Int} (hz : zr z) (hx : IX A B σ) (hwf : WF A B)
    (h : ∀ σ' : Nat → Nat → Int32, (∀ c, c ≠ 22 → c ≠ 23 → c ≠ 24 → c ≠ 25 → σ' c = σ c) → (∀ i, i ≠ 5 → σ' 23 i = σ 23 i) → Q (some (.int (Int32.ofInt (f_who A z)))) (lo_M n w3 g σ' τ r1 r2)) : am_d (d + 5) 62 [.ref 4, .int (Int32.ofInt z)] 0 0 (lo_M n w3 g σ τ r1 r2) Q := by
  have hlen := SL_len A (A 3 1) (fun _ => true) (A 4)
  refine am_goT T_X9_who [.ref 4, .int (Int32.ofInt z)] rfl rfl (fun _ => false) 60 ?_
  refine s_withinZ (d + 3) hz (by unfold zr; omega) (by unfold zr; omega) _ _ ?_
  by_cases c : 0 ≤ z ∧ z ≤ 6
  · rw [if_pos c]
    refine And.intro (fun q => absurd q (by decide)) (fun _ => ?_)
    refine s_seatAll d _ hx hwf (fun σ' k1 k2 k3 k4 k5 k6 => ?_)
    have h := h σ' k1 k2
    unfold f_who at h
    rw [if_pos c] at h
    refine And.intro (fun c2 => ?_) (fun c2 => ?_)
    · have c2 : σ' 23 5 ≤ Int32.ofInt z := c2
      rw [k4, zle (by unfold zr; omega) hz] at c2
      rw [List.getElem?_eq_none (by omega)] at h
      exact h
    · have c2 : ¬ σ' 23 5 ≤ Int32.ofInt z := c2
      rw [k4, zle (by unfold zr; omega) hz] at c2
      have hl : z.toNat < (SL A (A 3 1) (fun _ => true) (A 4)).length := by omega
      rw [List.getElem?_eq_getElem hl] at h
      have hq := k5 z.toNat _ (List.getElem?_eq_getElem hl)
      rw [Nat.zero_add] at hq
      refine ixi z.toNat 7 (by omega) ?_ (by congr 1; omega)
      rw [← hq] at h
      exact h
  · rw [if_neg c]
    refine And.intro (fun _ => ?_) (fun q => absurd rfl q)
    have h := h σ (fun _ _ _ _ _ => rfl) (fun _ _ => rfl)
    unfold f_who at h
    rw [if_neg c] at h
    exact h
def f_has (A : aN) (z : Int) : Int := if 0 ≤ z ∧ z < cnt A then HZ A (A 3 1) (fun _ => true) (A 4) z.toNat else -10002
set_option maxRecDepth 100000 in
theorem c_has (d : Nat) (Q : am_Q) {z : Int} (hz : zr z) (hx : IX A B σ) (hwf : WF A B)
    (h : ∀ σ' : Nat → Nat → Int32, (∀ c, c ≠ 22 → c ≠ 23 → c ≠ 24 → c ≠ 25 → σ' c = σ c) → (∀ i, i ≠ 5 → σ' 23 i = σ 23 i) → Q (some (.int (Int32.ofInt (f_has A z)))) (lo_M n w3 g σ' τ r1 r2)) : am_d (d + 5) 63 [.ref 4, .int (Int32.ofInt z)] 0 0 (lo_M n w3 g σ τ r1 r2) Q := by
  have hc := cnt_le A
  refine am_goT T_X9_has [.ref 4, .int (Int32.ofInt z)] rfl rfl (fun _ => false) 60 ?_
  refine s_isThere (d + 2) _ hz hc hx.1.2.2.1 ?_
  by_cases c : 0 ≤ z ∧ z < cnt A
  · rw [if_pos c]
    refine And.intro (fun q => absurd q (by decide)) (fun _ => ?_)
    refine s_seatAll d _ hx hwf (fun σ' k1 k2 k3 k4 k5 k6 => ?_)
    have hx' : IX A B σ' := IX_fr hx (fun c e1 e2 => k1 c (fun q => e2 (by subst q; unfold scr; omega)) (fun q => e2 (by subst q; unfold scr; omega)) (fun q => e2 (by subst q; unfold scr; omega)) (fun q => e2 (by subst q; unfold scr; omega))) (by rw [k1 4 (by decide) (by decide) (by decide) (by decide)])
    refine ixi z.toNat 7 (by omega) ?_ (by congr 1; omega)
    show am_d (d + 4) 4 [.ref 23, .int (Int32.ofInt z), .int (σ' 22 z.toNat)] 0 0 _ _
    rw [k3, if_pos (by omega), show Int32.ofInt z = Int32.ofInt (z.toNat : Int) by congr 1; omega]
    have h := h σ' k1 k2
    unfold f_has at h
    rw [if_pos c] at h
    obtain ⟨hP, hR, hS, hL, hW, hF, hU, hH, hl⟩ := hx'
    have s7 := seat7 A (A 3 1) (fun _ => true) (A 4) z.toNat
    exact s_worthA (d + 1) _ hwf (by omega) (by unfold gin; omega) hP hR hS hL (fun q hq => by have := SL_lt q hq; omega) (SL_len _ _ _ _) k4 k5 (k6 _ (by omega)) s7.1 s7.2 h
  · rw [if_neg c]
    refine And.intro (fun _ => ?_) (fun q => absurd rfl q)
    have h := h σ (fun _ _ _ _ _ => rfl) (fun _ _ => rfl)
    unfold f_has at h
    rw [if_neg c] at h
    exact h
end HA
end
section
/-! best, change, changes: the class -/
/-- the best of the first k of f: the first place of the most -/
def bst (f : Nat → Int) : Nat → Nat × Int
  | 0 => (0, 0)
  | k + 1 => if k = 0 ∨ f k > (bst f k).2 then (k, f k) else bst f k
theorem bst_keep {f : Nat → Int} {k : Nat} (h0 : k ≠ 0) (h : f k ≤ (bst f k).2) : bst f (k + 1) = bst f k := by
  show (if _ then _ else _) = _
  rw [if_neg (fun q => by rcases q with q | q <;> omega)]
theorem bst_take {f : Nat → Int} {k : Nat} (h : k = 0 ∨ (bst f k).2 < f k) : bst f (k + 1) = (k, f k) := by
  show (if _ then _ else _) = _
  rw [if_pos h]
/-- as told, but one waits v -/
def upw (w : Nat → Nat) (p v : Nat) : Nat → Nat := fun q => if q = p then v else w q
def f_best (A : aN) (z y : Int) : Int := if (0 ≤ z ∧ z < cnt A) ∧ 0 ≤ y ∧ y ≤ 1 then (if y = 0 then ((bst (fun v => HZ A (A 3 1) (fun _ => true) (upw (A 4) z.toNat v) z.toNat) (60 - mn A z.toNat)).1 : Int) else (bst (fun v => HZ A (A 3 1) (fun _ => true) (upw (A 4) z.toNat v) z.toNat) (60 - mn A z.toNat)).2) else -10002
section BE
variable {n w3 : Nat} {g : Nat → Nat × Nat} {σ : Nat → Nat → Int32} {τ : Nat → Nat → Int64} {r1 r2 : Nat} {A : aN} {B : aZ}
theorem bst_rng {f : Nat → Int} {lo hi : Int} (h0 : lo ≤ 0 ∧ 0 ≤ hi) (h : ∀ v, lo ≤ f v ∧ f v ≤ hi) : ∀ k, (bst f k).1 ≤ k ∧ lo ≤ (bst f k).2 ∧ (bst f k).2 ≤ hi
  | 0 => by simp [bst]; omega
  | k + 1 => by
    have ih := bst_rng h0 h k
    have := h k
    unfold bst
    split
    · simp; omega
    · omega
theorem HZ_rng (hwf : WF A B) {lw : Nat} {mem : Nat → Bool} {w : Nat → Nat} {p : Nat} (hp : p < cnt A) : -1000 ≤ HZ A lw mem w p ∧ HZ A lw mem w p ≤ 1000 := by
  have s7 := seat7 A lw mem w p
  exact WZ_rng hwf hp (by unfold gin; omega) s7.1 s7.2
set_option maxHeartbeats 1000000 in
set_option maxRecDepth 100000 in
theorem s_best_loop (d : Nat) (Q : am_Q) {p : Nat} {x2 : Int32} (hwf : WF A B) (hp : p < cnt A) : ∀ (k v : Nat) (σ : Nat → Nat → Int32) (x6 : Value), v + k = 60 - mn A p → IX A B σ → (∀ q, q < cnt A → q ≠ p → σ 22 q = Int32.ofInt (gin A q (A 4 q) : Int)) →
    (∀ σ' : Nat → Nat → Int32, (∀ c, c ≠ 22 → c ≠ 23 → c ≠ 24 → c ≠ 25 → σ' c = σ c) → (∀ i, i ≠ 5 → σ' 23 i = σ 23 i) → (x2 = 0 → Q (some (.int (Int32.ofInt ((bst (fun v => HZ A (A 3 1) (fun _ => true) (upw (A 4) p v) p) (60 - mn A p)).1 : Int)))) (lo_M n w3 g σ' τ r1 r2)) ∧ (¬ x2 = 0 → Q (some (.int (Int32.ofInt (bst (fun v => HZ A (A 3 1) (fun _ => true) (upw (A 4) p v) p) (60 - mn A p)).2))) (lo_M n w3 g σ' τ r1 r2))) →
    am_wp (am_d (d + 4)) T_X9_best Q (33, [.ref 4, .int (Int32.ofInt (p : Int)), .int x2, .int (Int32.ofInt ((bst (fun v => HZ A (A 3 1) (fun _ => true) (upw (A 4) p v) p) v).1 : Int)), .int (Int32.ofInt (bst (fun v => HZ A (A 3 1) (fun _ => true) (upw (A 4) p v) p) v).2), .int (Int32.ofInt (v : Int)), x6], [], 0, 0) (lo_M n w3 g σ τ r1 r2) := by
  have hc := cnt_le A
  have hm := mn_lt hp
  intro k
  induction k with
  | zero =>
    intro v σ x6 hv hx hg h
    have hve : v = 60 - mn A p := by omega
    subst hve
    refine am_wp_go (am_d_cm _) (fun pc => Nat.beq pc 33) 60 ?_
    refine ixi p 7 (by omega) ?_
    refine And.intro (fun c1 => ?_) (fun c1 => absurd ?_ c1)
    · have h := h σ (fun _ _ _ _ _ => rfl) (fun _ _ => rfl)
      exact And.intro (fun c2 => h.1 c2) (fun c2 => h.2 c2)
    · show Int32.ofInt 59 - σ 7 p < Int32.ofInt ((60 - mn A p : Nat) : Int)
      rw [(hx.1.2.2.2.2 p hp).1, zsub, zlt (by unfold zr; omega) (by unfold zr; omega)]
      omega
  | succ k ih =>
    intro v σ x6 hv hx hg h
    refine am_wp_go (am_d_cm _) (fun pc => Nat.beq pc 33) 60 ?_
    refine ixi p 7 (by omega) ?_
    refine And.intro (fun c1 => ?_) (fun c1 => ?_)
    · have c1 : Int32.ofInt 59 - σ 7 p < Int32.ofInt (v : Int) := c1
      rw [(hx.1.2.2.2.2 p hp).1, zsub, zlt (by unfold zr; omega) (by unfold zr; omega)] at c1
      omega
    · refine ixi p 7 (by omega) ?_
      refine ixi p 7 (by omega) ?_
      have hgp : σ 7 p + Int32.ofInt (v : Int) = Int32.ofInt (gin A p v : Int) := by
        rw [(hx.1.2.2.2.2 p hp).1, zadd]
        congr 1
        unfold gin
        omega
      have hP := hx.1
      have hS := hx.2.2.1
      refine s_everybody (d + 3) (σ := am_u σ 22 p (σ 7 p + Int32.ofInt (v : Int))) _ hc hP.2.2.1 ?_
      refine ixi 1 6 (by omega) ?_
      show am_d (d + 4) 1 [.ref 23, .ref 22, .int (Int32.ofInt ((2 ^ cnt A - 1 : Nat) : Int)), .int (σ 12 1)] 0 0 (lo_M n w3 g (am_u σ 22 p (σ 7 p + Int32.ofInt (v : Int))) τ r1 r2) _
      rw [hS 1 (by omega), hgp]
      have h2 : 2 ^ cnt A ≤ 2 ^ 7 := Nat.pow_le_pow_right (by omega) hc
      refine s_fillA (d + 1) _ (mem := fun _ => true) (w := upw (A 4) p v) hwf.2.2.2.1.2.1 (by omega) (fun p hp => bitk_all _ (by omega) p hp) (A := A) hP hS hwf.2.2.2.1.1 (fun q hq => ?_) (fun σ' j1 j2 j3 j4 j5 => ?_)
      · rw [am_u_at]
        by_cases e : q = p
        · subst e
          rw [if_pos rfl]
          unfold upw
          rw [if_pos rfl]
        · rw [if_neg e, hg q hq e]
          unfold upw
          rw [if_neg e]
      · have hx' : IX A B σ' := IX_fr hx (fun c e1 e2 => by
            rw [j1 c (fun q => e2 (by subst q; unfold scr; omega)) (fun q => e2 (by subst q; unfold scr; omega)) (fun q => e2 (by subst q; unfold scr; omega)), am_u_ne (fun q => e2 (by subst q; unfold scr; omega))]) (by rw [j1 4 (by decide) (by decide) (by decide), am_u_ne (by decide)])
        have e22 : σ' 22 p = Int32.ofInt (gin A p v : Int) := by rw [j1 22 (by decide) (by decide) (by decide), am_u_at, if_pos rfl]
        refine ixi p 7 (by omega) ?_
        show am_d (d + 4) 4 [.ref 23, .int (Int32.ofInt (p : Int)), .int (σ' 22 p)] 0 0 _ _
        rw [e22]
        have s7 := seat7 A (A 3 1) (fun _ => true) (upw (A 4) p v) p
        obtain ⟨hP', hR', hS', hL', hW', hF', hU', hH', hl'⟩ := id hx'
        refine s_worthA (d + 1) (L := SL A (A 3 1) (fun _ => true) (upw (A 4) p v)) (st := seatZ (SL A (A 3 1) (fun _ => true) (upw (A 4) p v)) p) _ hwf hp (by unfold gin; omega) hP' hR' hS' hL' (fun q hq => by have := SL_lt q hq; omega) (SL_len _ _ _ _) j3 j4 (j5 p hp) s7.1 s7.2 ?_
        have hHZ : WZ A (SL A (A 3 1) (fun _ => true) (upw (A 4) p v)) (seatZ (SL A (A 3 1) (fun _ => true) (upw (A 4) p v)) p) p (gin A p v) = HZ A (A 3 1) (fun _ => true) (upw (A 4) p v) p := by
          unfold HZ upw
          rw [if_pos rfl]
        rw [hHZ]
        have next : ∀ x6, am_wp (am_d (d + 4)) T_X9_best Q (33, [.ref 4, .int (Int32.ofInt (p : Int)), .int x2, .int (Int32.ofInt ((bst (fun v => HZ A (A 3 1) (fun _ => true) (upw (A 4) p v) p) (v + 1)).1 : Int)), .int (Int32.ofInt (bst (fun v => HZ A (A 3 1) (fun _ => true) (upw (A 4) p v) p) (v + 1)).2), .int (Int32.ofInt (v : Int) + Int32.ofInt 1), x6], [], 0, 0) (lo_M n w3 g σ' τ r1 r2) := by
          intro x6
          rw [zadd, show ((v : Int) + 1) = ((v + 1 : Nat) : Int) by omega]
          refine ih (v + 1) σ' x6 (by omega) hx' (fun q hq e => by rw [j1 22 (by decide) (by decide) (by decide), am_u_at, if_neg e]; exact hg q hq e) (fun σ2 m1 m2 => h σ2 (fun c e1 e2 e3 e4 => by rw [m1 c e1 e2 e3 e4, j1 c e2 e3 e4, am_u_ne e1]) (fun i hi => by rw [m2 i hi, j2 i hi]; rfl))
        have hr1 := HZ_rng (A := A) (B := B) hwf (lw := A 3 1) (mem := fun _ => true) (w := upw (A 4) p v) hp
        have hr2 := bst_rng (f := fun v => HZ A (A 3 1) (fun _ => true) (upw (A 4) p v) p) (lo := -1000) (hi := 1000) (by omega) (fun v => HZ_rng hwf hp) v
        refine And.intro (fun c2 => ?_) (fun c2 => And.intro (fun c3 => ?_) (fun c3 => ?_))
        · rw [zeq0 (by unfold zr; omega)] at c2
          have hb : bst (fun v => HZ A (A 3 1) (fun _ => true) (upw (A 4) p v) p) (v + 1) = (v, HZ A (A 3 1) (fun _ => true) (upw (A 4) p v) p) := by
            show (if _ then _ else _) = _
            rw [if_pos (Or.inl (by omega))]
          rw [hb] at next
          exact next _
        · rw [zeq0 (by unfold zr; omega)] at c2
          rw [zle (by unfold zr; omega) (by unfold zr; omega)] at c3
          have hb : bst (fun v => HZ A (A 3 1) (fun _ => true) (upw (A 4) p v) p) (v + 1) = bst (fun v => HZ A (A 3 1) (fun _ => true) (upw (A 4) p v) p) v := by
            exact bst_keep (by omega) c3
          rw [hb] at next
          exact next _
        · rw [zeq0 (by unfold zr; omega)] at c2
          rw [zle (by unfold zr; omega) (by unfold zr; omega)] at c3
          have hb : bst (fun v => HZ A (A 3 1) (fun _ => true) (upw (A 4) p v) p) (v + 1) = (v, HZ A (A 3 1) (fun _ => true) (upw (A 4) p v) p) := by
            exact bst_take (Or.inr (Int.not_le.mp c3))
          rw [hb] at next
          exact next _
set_option maxRecDepth 100000 in
theorem c_best (d : Nat) (Q : am_Q) {z y : Int} (hz : zr z) (hy : zr y) (hx : IX A B σ) (hwf : WF A B)
    (h : ∀ σ' : Nat → Nat → Int32, (∀ c, c ≠ 22 → c ≠ 23 → c ≠ 24 → c ≠ 25 → σ' c = σ c) → (∀ i, i ≠ 5 → σ' 23 i = σ 23 i) → Q (some (.int (Int32.ofInt (f_best A z y)))) (lo_M n w3 g σ' τ r1 r2)) : am_d (d + 5) 64 [.ref 4, .int (Int32.ofInt z), .int (Int32.ofInt y)] 0 0 (lo_M n w3 g σ τ r1 r2) Q := by
  have hc := cnt_le A
  have bad : ¬ ((0 ≤ z ∧ z < cnt A) ∧ 0 ≤ y ∧ y ≤ 1) → Q (some (.int (Int32.ofInt (-10002)))) (lo_M n w3 g σ τ r1 r2) := by
    intro c
    have h := h σ (fun _ _ _ _ _ => rfl) (fun _ _ => rfl)
    unfold f_best at h
    rw [if_neg c] at h
    exact h
  refine am_goT T_X9_best [.ref 4, .int (Int32.ofInt z), .int (Int32.ofInt y), .null, .null, .null, .null] rfl rfl (fun pc => Nat.beq pc 33) 60 ?_
  refine s_isThere (d + 2) _ hz hc hx.1.2.2.1 ?_
  by_cases c : 0 ≤ z ∧ z < cnt A
  · rw [if_pos c]
    refine And.intro (fun q => absurd q (by decide)) (fun _ => ?_)
    refine s_withinZ (d + 3) hy (by unfold zr; omega) (by unfold zr; omega) _ _ ?_
    by_cases cy : 0 ≤ y ∧ y ≤ 1
    · rw [if_pos cy]
      refine And.intro (fun q => absurd q (by decide)) (fun _ => ?_)
      refine s_gather (d + 2) _ hx.1 hx.2.2.2.2.1 hwf.2.2.2.2.1 (fun σ1 k1 k2 => ?_)
      have hx1 : IX A B σ1 := IX_fr hx (fun c e1 e2 => k1 c (fun q => e2 (by subst q; unfold scr; omega))) (by rw [k1 4 (by decide)])
      have key := s_best_loop (n := n) (w3 := w3) (g := g) (τ := τ) (r1 := r1) (r2 := r2) d Q (p := z.toNat) (x2 := Int32.ofInt y) hwf (by omega) (60 - mn A z.toNat) 0 σ1 .null (by omega) hx1 (fun q hq _ => by rw [k2 q, if_pos hq]) (fun σ' m1 m2 => ?_)
      · rw [show ((z.toNat : Nat) : Int) = z by omega] at key
        exact key
      · have h := h σ' (fun c e1 e2 e3 e4 => by rw [m1 c e1 e2 e3 e4, k1 c e1]) (fun i hi => by rw [m2 i hi, k1 23 (by decide)])
        unfold f_best at h
        rw [if_pos ⟨c, cy⟩] at h
        refine ⟨fun e => ?_, fun e => ?_⟩
        · rw [zeq0 hy] at e
          rw [if_pos e] at h
          exact h
        · rw [zeq0 hy] at e
          rw [if_neg e] at h
          exact h
    · rw [if_neg cy]
      exact And.intro (fun _ => bad (fun q => cy q.2)) (fun q => absurd rfl q)
  · rw [if_neg c]
    exact And.intro (fun _ => bad (fun q => c q.1)) (fun q => absurd rfl q)
end BE
end
section
/-! two who would change: the class -/
/-- two sitters change -/
def swp (L : List Nat) (a b : Nat) (sa sb : Nat) : List Nat := (L.set sa b).set sb a
/-- would both have more -/
def CZ (A : aN) (L : List Nat) (a b : Nat) (ga gb : Nat) : Bool := decide (WZ A L (seatZ L a) a ga < WZ A (swp L a b (seatZ L a).toNat (seatZ L b).toNat) (seatZ L b) a ga) && decide (WZ A L (seatZ L b) b gb < WZ A (swp L a b (seatZ L a).toNat (seatZ L b).toNat) (seatZ L a) b gb)
section CH
variable {n w3 : Nat} {g : Nat → Nat × Nat} {σ : Nat → Nat → Int32} {τ : Nat → Nat → Int64} {r1 r2 : Nat} {A : aN} {B : aZ}
/-- the memory after two have changed -/
def swM (σ : Nat → Nat → Int32) (a b : Nat) (sa sb : Nat) : Nat → Nat → Int32 := am_u (am_u (am_u (am_u σ 24 a (Int32.ofInt (sb : Int))) 24 b (Int32.ofInt (sa : Int))) 25 sa (Int32.ofInt (b : Int))) 25 sb (Int32.ofInt (a : Int))
theorem swM_ne {a b sa sb c : Nat} (h1 : c ≠ 24) (h2 : c ≠ 25) : swM σ a b sa sb c = σ c := by
  unfold swM
  rw [am_u_ne h2, am_u_ne h2, am_u_ne h1, am_u_ne h1]
theorem swM_24 {a b sa sb q : Nat} : swM σ a b sa sb 24 q = if q = b then Int32.ofInt (sa : Int) else if q = a then Int32.ofInt (sb : Int) else σ 24 q := by
  unfold swM
  rw [am_u_ne (by decide), am_u_ne (by decide), am_u_at, am_u_at]
theorem swM_25 {a b sa sb q : Nat} : swM σ a b sa sb 25 q = if q = sb then Int32.ofInt (a : Int) else if q = sa then Int32.ofInt (b : Int) else σ 25 q := by
  unfold swM
  rw [am_u_at, am_u_at, am_u_ne (by decide), am_u_ne (by decide)]
set_option maxRecDepth 100000 in
theorem s_swap (d : Nat) (Q : am_Q) {a b sa sb : Nat} (ha : a < 7) (hb : b < 7) (hsa : sa < 7) (hsb : sb < 7) (h1 : σ 24 a = Int32.ofInt (sa : Int)) (h2 : σ 24 b = Int32.ofInt (sb : Int)) (h : Q none (lo_M n w3 g (swM σ a b sa sb) τ r1 r2)) : am_d (d + 1) 6 [.ref 23, .int (Int32.ofInt (a : Int)), .int (Int32.ofInt (b : Int))] 0 0 (lo_M n w3 g σ τ r1 r2) Q := by
  refine am_goT T_X0_swap [.ref 23, .int (Int32.ofInt (a : Int)), .int (Int32.ofInt (b : Int)), .null, .null] rfl rfl (fun _ => false) 60 ?_
  refine ixi a 7 ha ?_
  refine ixi b 7 hb ?_
  refine And.intro (fun c1 => ?_) (fun c1 => And.intro (fun c2 => ?_) (fun c2 => ?_))
  · have c1 : σ 24 a = Int32.ofInt (-1) := c1
    rw [h1, zeq (by unfold zr; omega) (by unfold zr; omega)] at c1
    omega
  · have c2 : σ 24 b = Int32.ofInt (-1) := c2
    rw [h2, zeq (by unfold zr; omega) (by unfold zr; omega)] at c2
    omega
  · refine ixi a 7 ha ?_
    refine ixi b 7 hb ?_
    refine ixi sa 7 hsa ?_ h1
    refine ixi sb 7 hsb ?_ h2
    unfold swM at h
    rw [← h1, ← h2] at h
    exact h
theorem hol_swp {L : List Nat} {a b sa sb : Nat} (h : hol σ 25 0 L) (hsa : sa < L.length) (hsb : sb < L.length) : hol (swM σ a b sa sb) 25 0 (swp L a b sa sb) := by
  intro i q hq
  rw [Nat.zero_add, swM_25]
  unfold swp at hq
  by_cases e1 : i = sb
  · subst e1
    rw [List.getElem?_set_self (by simpa using hsb)] at hq
    cases hq
    rw [if_pos rfl]
  · rw [List.getElem?_set_ne (Ne.symm e1)] at hq
    rw [if_neg e1]
    by_cases e2 : i = sa
    · subst e2
      rw [List.getElem?_set_self hsa] at hq
      cases hq
      rw [if_pos rfl]
    · rw [List.getElem?_set_ne (Ne.symm e2)] at hq
      rw [if_neg e2]
      have := h i q hq
      rw [Nat.zero_add] at this
      exact this
set_option maxHeartbeats 1000000 in
set_option maxRecDepth 100000 in
theorem s_wouldChange (d : Nat) (Q : am_Q) {L : List Nat} {a b ga gb : Nat} (hwf : WF A B) (hx : IX A B σ) (ha : a < cnt A) (hb : b < cnt A) (hab : a ≠ b) (hga : ga ≤ 60) (hgb : gb ≤ 60) (g1 : σ 22 a = Int32.ofInt (ga : Int)) (g2 : σ 22 b = Int32.ofInt (gb : Int)) (hL7 : ∀ q ∈ L, q < 7) (hlen : L.length ≤ 7) (ht : σ 23 5 = Int32.ofInt (L.length : Int)) (h1 : hol σ 25 0 L) (hs : ∀ q, q < cnt A → σ 24 q = Int32.ofInt (seatZ L q)) (na : seatZ L a ≠ -1) (nb : seatZ L b ≠ -1)
    (h : ∀ σ' : Nat → Nat → Int32, (∀ c, c ≠ 24 → c ≠ 25 → σ' c = σ c) → hol σ' 25 0 L → (∀ q, q < cnt A → σ' 24 q = Int32.ofInt (seatZ L q)) → Q (some (.int (if CZ A L a b ga gb then 1 else 0))) (lo_M n w3 g σ' τ r1 r2)) : am_d (d + 4) 99 [.ref 4, .int (Int32.ofInt (a : Int)), .int (Int32.ofInt (b : Int))] 0 0 (lo_M n w3 g σ τ r1 r2) Q := by
  have hc := cnt_le A
  have ra := seatZ_rng L a
  have rb := seatZ_rng L b
  obtain ⟨sa, hsa⟩ : ∃ sa : Nat, seatZ L a = (sa : Int) := ⟨(seatZ L a).toNat, by omega⟩
  obtain ⟨sb, hsb⟩ : ∃ sb : Nat, seatZ L b = (sb : Int) := ⟨(seatZ L b).toNat, by omega⟩
  have hLa := seatZ_at na
  have hLb := seatZ_at nb
  rw [hsa, Int.toNat_natCast] at hLa
  rw [hsb, Int.toNat_natCast] at hLb
  have hsne : sa ≠ sb := by
    intro q
    subst q
    rw [hLa] at hLb
    exact hab (Option.some.inj hLb)
  have s7a : sa < 7 := by omega
  have s7b : sb < 7 := by omega
  have ea : σ 24 a = Int32.ofInt (sa : Int) := by rw [hs a ha, hsa]
  have eb : σ 24 b = Int32.ofInt (sb : Int) := by rw [hs b hb, hsb]
  obtain ⟨hP, hR, hS, hL, hW, hF, hU, hH, hl⟩ := id hx
  have hx2 : IX A B (swM σ a b sa sb) := IX_fr hx (fun c e1 e2 => swM_ne (fun q => e2 (by subst q; unfold scr; omega)) (fun q => e2 (by subst q; unfold scr; omega))) (by rw [swM_ne (by decide) (by decide)])
  have hL7' : ∀ q ∈ swp L a b sa sb, q < 7 := by
    intro q hq
    rcases List.mem_or_eq_of_mem_set hq with hq | rfl
    · rcases List.mem_or_eq_of_mem_set hq with hq | rfl
      · exact hL7 q hq
      · omega
    · omega
  have hlen' : (swp L a b sa sb).length = L.length := by unfold swp; rw [List.length_set, List.length_set]
  have w1 := WZ_rng (A := A) (B := B) hwf (L := L) (st := (sa : Int)) ha hga (by omega) (by omega)
  have w2 := WZ_rng (A := A) (B := B) hwf (L := L) (st := (sb : Int)) hb hgb (by omega) (by omega)
  have w3' := WZ_rng (A := A) (B := B) hwf (L := swp L a b sa sb) (st := (sb : Int)) ha hga (by omega) (by omega)
  have w4 := WZ_rng (A := A) (B := B) hwf (L := swp L a b sa sb) (st := (sa : Int)) hb hgb (by omega) (by omega)
  have hCZ : CZ A L a b ga gb = (decide (WZ A L (sa : Int) a ga < WZ A (swp L a b sa sb) (sb : Int) a ga) && decide (WZ A L (sb : Int) b gb < WZ A (swp L a b sa sb) (sa : Int) b gb)) := by
    unfold CZ
    rw [hsa, hsb, Int.toNat_natCast, Int.toNat_natCast]
  have hfin : Q (some (.int (if CZ A L a b ga gb then 1 else 0))) (lo_M n w3 g (swM (swM σ a b sa sb) a b sb sa) τ r1 r2) := by
    refine h _ (fun c e1 e2 => by rw [swM_ne e1 e2, swM_ne e1 e2]) ?_ ?_
    · intro i q hq
      rw [Nat.zero_add, swM_25, swM_25]
      by_cases e1 : i = sa
      · subst e1
        rw [hLa] at hq
        cases hq
        rw [if_pos rfl]
      · rw [if_neg e1]
        by_cases e2 : i = sb
        · subst e2
          rw [hLb] at hq
          cases hq
          rw [if_pos rfl]
        · rw [if_neg e2, if_neg e2, if_neg e1]
          have := h1 i q hq
          rw [Nat.zero_add] at this
          exact this
    · intro q hq
      rw [swM_24, swM_24]
      by_cases e1 : q = b
      · subst e1
        rw [if_pos rfl, hsb]
      · rw [if_neg e1]
        by_cases e2 : q = a
        · subst e2
          rw [if_pos rfl, hsa]
        · rw [if_neg e2, if_neg e1, if_neg e2]
          exact hs q hq
  refine am_goT T_X9_wouldChange [.ref 4, .int (Int32.ofInt (a : Int)), .int (Int32.ofInt (b : Int)), .null, .null, .null] rfl rfl (fun _ => false) 80 ?_
  refine ixi a 7 (by omega) ?_
  show am_d (d + 3) 4 [.ref 23, .int (Int32.ofInt (a : Int)), .int (σ 22 a)] 0 0 _ _
  rw [g1]
  refine s_worthA d (L := L) (st := (sa : Int)) _ hwf ha hga hP hR hS hL hL7 hlen ht h1 ea (by omega) (by omega) ?_
  refine ixi b 7 (by omega) ?_
  show am_d (d + 3) 4 [.ref 23, .int (Int32.ofInt (b : Int)), .int (σ 22 b)] 0 0 _ _
  rw [g2]
  refine s_worthA d (L := L) (st := (sb : Int)) _ hwf hb hgb hP hR hS hL hL7 hlen ht h1 eb (by omega) (by omega) ?_
  refine s_swap (d + 2) _ (by omega) (by omega) s7a s7b ea eb ?_
  obtain ⟨hP2, hR2, hS2, hL2, -⟩ := id hx2
  refine ixi a 7 (by omega) ?_
  show am_d (d + 3) 4 [.ref 23, .int (Int32.ofInt (a : Int)), .int (swM σ a b sa sb 22 a)] 0 0 _ _
  rw [swM_ne (by decide) (by decide), g1]
  refine s_worthA d (L := swp L a b sa sb) (st := (sb : Int)) _ hwf ha hga hP2 hR2 hS2 hL2 hL7' (by rw [hlen']; exact hlen) (by rw [swM_ne (by decide) (by decide), hlen']; exact ht) (hol_swp h1 (by omega) (by omega)) (by rw [swM_24, if_neg hab, if_pos rfl]) (by omega) (by omega) ?_
  refine And.intro (fun c1 => ?_) (fun c1 => ?_)
  · rw [zle (by unfold zr; omega) (by unfold zr; omega)] at c1
    refine s_swap (d + 2) (σ := swM σ a b sa sb) (sa := sb) (sb := sa) _ (by omega) (by omega) s7b s7a (by rw [swM_24, if_neg hab, if_pos rfl]) (by rw [swM_24, if_pos rfl]) ?_
    rw [hCZ, if_neg (by simp; intro q; omega)] at hfin
    exact And.intro (Or.inl rfl) hfin
  · rw [zle (by unfold zr; omega) (by unfold zr; omega)] at c1
    refine ixi b 7 (by omega) ?_
    show am_d (d + 3) 4 [.ref 23, .int (Int32.ofInt (b : Int)), .int (swM σ a b sa sb 22 b)] 0 0 _ _
    rw [swM_ne (by decide) (by decide), g2]
    refine s_worthA d (L := swp L a b sa sb) (st := (sa : Int)) _ hwf hb hgb hP2 hR2 hS2 hL2 hL7' (by rw [hlen']; exact hlen) (by rw [swM_ne (by decide) (by decide), hlen']; exact ht) (hol_swp h1 (by omega) (by omega)) (by rw [swM_24, if_pos rfl]) (by omega) (by omega) ?_
    refine And.intro (fun c2 => ?_) (fun c2 => ?_)
    · rw [zle (by unfold zr; omega) (by unfold zr; omega)] at c2
      refine s_swap (d + 2) (σ := swM σ a b sa sb) (sa := sb) (sb := sa) _ (by omega) (by omega) s7b s7a (by rw [swM_24, if_neg hab, if_pos rfl]) (by rw [swM_24, if_pos rfl]) ?_
      rw [hCZ, if_neg (by simp; intro q; omega)] at hfin
      exact And.intro (Or.inl rfl) hfin
    · rw [zle (by unfold zr; omega) (by unfold zr; omega)] at c2
      refine s_swap (d + 2) (σ := swM σ a b sa sb) (sa := sb) (sb := sa) _ (by omega) (by omega) s7b s7a (by rw [swM_24, if_neg hab, if_pos rfl]) (by rw [swM_24, if_pos rfl]) ?_
      rw [hCZ, if_pos (by simp; omega)] at hfin
      exact And.intro (Or.inr rfl) hfin
end CH
end
section
/-! change, changes: the class -/
/-- f i + .. + f (i + k - 1) -/
def sumr (f : Nat → Int) : Nat → Nat → Int
  | _, 0 => 0
  | i, k + 1 => f i + sumr f (i + 1) k
theorem sumr_rng {f : Nat → Int} {M : Int} (h : ∀ i, 0 ≤ f i ∧ f i ≤ M) : ∀ k i, 0 ≤ sumr f i k ∧ sumr f i k ≤ M * k
  | 0, i => by simp [sumr]
  | k + 1, i => by
    have ih := sumr_rng h k (i + 1)
    have := h i
    have e : M * ((k + 1 : Nat) : Int) = M * (k : Int) + M := by rw [show ((k + 1 : Nat) : Int) = (k : Int) + 1 by omega, Int.mul_add, Int.mul_one]
    unfold sumr
    omega
/-- one pair of those who sit -/
def cpair (A : aN) (L : List Nat) (a b : Nat) : Int := if seatZ L a ≠ -1 ∧ seatZ L b ≠ -1 ∧ CZ A L a b (gin A a (A 4 a)) (gin A b (A 4 b)) = true then 1 else 0
def f_change (A : aN) (z y : Int) : Int := if (0 ≤ z ∧ z < cnt A) ∧ (0 ≤ y ∧ y < cnt A) ∧ z ≠ y then (if seatZ (SL A (A 3 1) (fun _ => true) (A 4)) z.toNat = -1 ∨ seatZ (SL A (A 3 1) (fun _ => true) (A 4)) y.toNat = -1 then -3 else if CZ A (SL A (A 3 1) (fun _ => true) (A 4)) z.toNat y.toNat (gin A z.toNat (A 4 z.toNat)) (gin A y.toNat (A 4 y.toNat)) = true then 1 else 0) else -2
def f_changes (A : aN) : Int := sumr (fun a => sumr (cpair A (SL A (A 3 1) (fun _ => true) (A 4)) a) (a + 1) (cnt A - (a + 1))) 0 (cnt A)
section CS
variable {n w3 : Nat} {g : Nat → Nat × Nat} {σ : Nat → Nat → Int32} {τ : Nat → Nat → Int64} {r1 r2 : Nat} {A : aN} {B : aZ}
theorem cpair01 (A : aN) (L : List Nat) (a b : Nat) : 0 ≤ cpair A L a b ∧ cpair A L a b ≤ 1 := by
  unfold cpair
  split <;> omega
set_option maxRecDepth 100000 in
theorem c_change (d : Nat) (Q : am_Q) {z y : Int} (hz : zr z) (hy : zr y) (hx : IX A B σ) (hwf : WF A B)
    (h : ∀ σ' : Nat → Nat → Int32, (∀ c, c ≠ 22 → c ≠ 23 → c ≠ 24 → c ≠ 25 → σ' c = σ c) → (∀ i, i ≠ 5 → σ' 23 i = σ 23 i) → Q (some (.int (Int32.ofInt (f_change A z y)))) (lo_M n w3 g σ' τ r1 r2)) : am_d (d + 5) 66 [.ref 4, .int (Int32.ofInt z), .int (Int32.ofInt y)] 0 0 (lo_M n w3 g σ τ r1 r2) Q := by
  have hc := cnt_le A
  have bad : ¬ ((0 ≤ z ∧ z < cnt A) ∧ (0 ≤ y ∧ y < cnt A) ∧ z ≠ y) → Q (some (.int (Int32.ofInt (-2)))) (lo_M n w3 g σ τ r1 r2) := by
    intro c
    have h := h σ (fun _ _ _ _ _ => rfl) (fun _ _ => rfl)
    unfold f_change at h
    rw [if_neg c] at h
    exact h
  refine am_goT T_X9_change [.ref 4, .int (Int32.ofInt z), .int (Int32.ofInt y)] rfl rfl (fun _ => false) 60 ?_
  refine s_isThere (d + 2) _ hz hc hx.1.2.2.1 ?_
  by_cases c : 0 ≤ z ∧ z < cnt A
  · rw [if_pos c]
    refine And.intro (fun q => absurd q (by decide)) (fun _ => ?_)
    refine s_isThere (d + 2) _ hy hc hx.1.2.2.1 ?_
    by_cases cy : 0 ≤ y ∧ y < cnt A
    · rw [if_pos cy]
      refine And.intro (fun q => absurd q (by decide)) (fun _ => ?_)
      refine And.intro (fun c3 => ?_) (fun c3 => ?_)
      · rw [zeq hz hy] at c3
        exact bad (fun q => q.2.2 c3)
      · rw [zeq hz hy] at c3
        refine s_seatAll d _ hx hwf (fun σ' k1 k2 k3 k4 k5 k6 => ?_)
        have hx' : IX A B σ' := IX_fr hx (fun c e1 e2 => k1 c (fun q => e2 (by subst q; unfold scr; omega)) (fun q => e2 (by subst q; unfold scr; omega)) (fun q => e2 (by subst q; unfold scr; omega)) (fun q => e2 (by subst q; unfold scr; omega))) (by rw [k1 4 (by decide) (by decide) (by decide) (by decide)])
        have s1 := seat7 A (A 3 1) (fun _ => true) (A 4) z.toNat
        have s2 := seat7 A (A 3 1) (fun _ => true) (A 4) y.toNat
        have hnot : (seatZ (SL A (A 3 1) (fun _ => true) (A 4)) z.toNat = -1 ∨ seatZ (SL A (A 3 1) (fun _ => true) (A 4)) y.toNat = -1) → Q (some (.int (Int32.ofInt (-3)))) (lo_M n w3 g σ' τ r1 r2) := by
          intro e
          have h := h σ' k1 k2
          unfold f_change at h
          rw [if_pos ⟨c, cy, c3⟩, if_pos e] at h
          exact h
        refine ixi z.toNat 7 (by omega) ?_ (by congr 1; omega)
        refine And.intro (fun c4 => ?_) (fun c4 => ?_)
        · have c4 : σ' 24 z.toNat = Int32.ofInt (-1) := c4
          rw [k6 _ (by omega), zeq (by unfold zr; omega) (by unfold zr; omega)] at c4
          exact hnot (Or.inl c4)
        · have c4 : ¬ σ' 24 z.toNat = Int32.ofInt (-1) := c4
          rw [k6 _ (by omega), zeq (by unfold zr; omega) (by unfold zr; omega)] at c4
          refine ixi y.toNat 7 (by omega) ?_ (by congr 1; omega)
          refine And.intro (fun c5 => ?_) (fun c5 => ?_)
          · have c5 : σ' 24 y.toNat = Int32.ofInt (-1) := c5
            rw [k6 _ (by omega), zeq (by unfold zr; omega) (by unfold zr; omega)] at c5
            exact hnot (Or.inr c5)
          · have c5 : ¬ σ' 24 y.toNat = Int32.ofInt (-1) := c5
            rw [k6 _ (by omega), zeq (by unfold zr; omega) (by unfold zr; omega)] at c5
            show am_d (d + 4) 99 [.ref 4, .int (Int32.ofInt z), .int (Int32.ofInt y)] 0 0 _ _
            rw [show Int32.ofInt z = Int32.ofInt (z.toNat : Int) by congr 1; omega, show Int32.ofInt y = Int32.ofInt (y.toNat : Int) by congr 1; omega]
            refine s_wouldChange d (L := SL A (A 3 1) (fun _ => true) (A 4)) _ hwf hx' (by omega) (by omega) (by omega) (ga := gin A z.toNat (A 4 z.toNat)) (gb := gin A y.toNat (A 4 y.toNat)) (by unfold gin; omega) (by unfold gin; omega) (by rw [k3, if_pos (by omega)]) (by rw [k3, if_pos (by omega)]) (fun q hq => by have := SL_lt q hq; omega) (SL_len _ _ _ _) k4 k5 k6 c4 c5 (fun σ2 m1 m2 m3 => ?_)
            have h := h σ2 (fun c e1 e2 e3 e4 => by rw [m1 c e3 e4, k1 c e1 e2 e3 e4]) (fun i hi => by rw [m1 23 (by decide) (by decide), k2 i hi])
            unfold f_change at h
            rw [if_pos ⟨c, cy, c3⟩, if_neg (fun q => q.elim c4 c5)] at h
            by_cases e : CZ A (SL A (A 3 1) (fun _ => true) (A 4)) z.toNat y.toNat (gin A z.toNat (A 4 z.toNat)) (gin A y.toNat (A 4 y.toNat)) = true
            · rw [if_pos e]
              rw [if_pos e] at h
              exact And.intro (fun q => absurd q (by decide)) (fun _ => h)
            · rw [if_neg e]
              rw [if_neg e] at h
              exact And.intro (fun _ => h) (fun q => absurd rfl q)
    · rw [if_neg cy]
      exact And.intro (fun _ => bad (fun q => cy q.2.1)) (fun q => absurd rfl q)
  · rw [if_neg c]
    exact And.intro (fun _ => bad (fun q => c q.1)) (fun q => absurd rfl q)
/-- the church as it was filled, and goingIn -/
def chS (A : aN) (L : List Nat) (σ : Nat → Nat → Int32) : Prop := (∀ q, q < cnt A → σ 22 q = Int32.ofInt (gin A q (A 4 q) : Int)) ∧ σ 23 5 = Int32.ofInt (L.length : Int) ∧ hol σ 25 0 L ∧ ∀ q, q < cnt A → σ 24 q = Int32.ofInt (seatZ L q)
set_option maxHeartbeats 1000000 in
set_option maxRecDepth 100000 in
theorem s_changes_in (d : Nat) (K : am_F → am_M → Prop) (Q : am_Q) {L : List Nat} {a : Nat} (hwf : WF A B) (ha : a < cnt A) (hL7 : ∀ q ∈ L, q < 7) (hlen : L.length ≤ 7) : ∀ (k b : Nat) (acc : Int) (σ : Nat → Nat → Int32), b + k = cnt A → a < b → 0 ≤ acc → acc + k ≤ 1000 → IX A B σ → chS A L σ →
    (∀ σ' : Nat → Nat → Int32, (∀ c, c ≠ 24 → c ≠ 25 → σ' c = σ c) → chS A L σ' → am_wp (am_d (d + 4)) T_X9_changes Q (8, [.ref 4, .int (Int32.ofInt (acc + sumr (cpair A L a) b k)), .int (Int32.ofInt ((a + 1 : Nat) : Int)), .int (Int32.ofInt (cnt A : Int))], [], 0, 0) (lo_M n w3 g σ' τ r1 r2)) →
    am_wp (am_d (d + 4)) T_X9_changes Q (23, [.ref 4, .int (Int32.ofInt acc), .int (Int32.ofInt (a : Int)), .int (Int32.ofInt (b : Int))], [], 0, 0) (lo_M n w3 g σ τ r1 r2) := by
  have hc := cnt_le A
  intro k
  induction k with
  | zero =>
    intro b acc σ hb hab h0 hacc hx hch h
    have hbe : b = cnt A := by omega
    subst hbe
    refine am_wp_go (am_d_cm _) (fun pc => Nat.beq pc 8 || Nat.beq pc 23) 60 ?_
    refine And.intro (fun c1 => ?_) (fun c1 => absurd ?_ c1)
    · have h := h σ (fun _ _ _ => rfl) hch
      unfold sumr at h
      rw [Int.add_zero, show ((a + 1 : Nat) : Int) = (a : Int) + 1 by omega, ← zadd (a : Int)] at h
      exact h
    · show σ 5 4 ≤ Int32.ofInt (cnt A : Int)
      rw [hx.1.2.2.1]
      exact Int32.le_refl _
  | succ k ih =>
    intro b acc σ hb hab h0 hacc hx hch h
    obtain ⟨hg, ht, h1, hs⟩ := id hch
    have s1 := seatZ_rng L a
    have s2 := seatZ_rng L b
    have next : ∀ (σ2 : Nat → Nat → Int32), (∀ c, c ≠ 24 → c ≠ 25 → σ2 c = σ c) → chS A L σ2 → am_wp (am_d (d + 4)) T_X9_changes Q (23, [.ref 4, .int (Int32.ofInt (acc + cpair A L a b)), .int (Int32.ofInt (a : Int)), .int (Int32.ofInt (b : Int) + Int32.ofInt 1)], [], 0, 0) (lo_M n w3 g σ2 τ r1 r2) := by
      intro σ2 m1 m2
      have c01 := cpair01 A L a b
      rw [zadd, show ((b : Int) + 1) = ((b + 1 : Nat) : Int) by omega]
      refine ih (b + 1) (acc + cpair A L a b) σ2 (by omega) (by omega) (by omega) (by omega) (IX_fr hx (fun c e1 e2 => m1 c (fun q => e2 (by subst q; unfold scr; omega)) (fun q => e2 (by subst q; unfold scr; omega))) (by rw [m1 4 (by decide) (by decide)])) m2 (fun σ' j1 j2 => ?_)
      have h := h σ' (fun c e1 e2 => by rw [j1 c e1 e2, m1 c e1 e2]) j2
      unfold sumr at h
      rw [← Int.add_assoc] at h
      exact h
    have skip : (seatZ L a = -1 ∨ seatZ L b = -1) → am_wp (am_d (d + 4)) T_X9_changes Q (23, [.ref 4, .int (Int32.ofInt acc), .int (Int32.ofInt (a : Int)), .int (Int32.ofInt (b : Int) + Int32.ofInt 1)], [], 0, 0) (lo_M n w3 g σ τ r1 r2) := by
      intro e
      have hn := next σ (fun _ _ _ => rfl) hch
      have e0 : cpair A L a b = 0 := by
        unfold cpair
        rw [if_neg (fun q => e.elim q.1 q.2.1)]
      rw [e0, Int.add_zero] at hn
      exact hn
    refine am_wp_go (am_d_cm _) (fun pc => Nat.beq pc 8 || Nat.beq pc 23) 60 ?_
    refine And.intro (fun c1 => ?_) (fun c1 => ?_)
    · have c1 : σ 5 4 ≤ Int32.ofInt (b : Int) := c1
      rw [hx.1.2.2.1, zle (by unfold zr; omega) (by unfold zr; omega)] at c1
      omega
    · refine ixi a 7 (by omega) ?_
      refine And.intro (fun c4 => ?_) (fun c4 => ?_)
      · have c4 : σ 24 a = Int32.ofInt (-1) := c4
        rw [hs _ ha, zeq (by unfold zr; omega) (by unfold zr; omega)] at c4
        exact skip (Or.inl c4)
      · have c4 : ¬ σ 24 a = Int32.ofInt (-1) := c4
        rw [hs _ ha, zeq (by unfold zr; omega) (by unfold zr; omega)] at c4
        refine ixi b 7 (by omega) ?_
        refine And.intro (fun c5 => ?_) (fun c5 => ?_)
        · have c5 : σ 24 b = Int32.ofInt (-1) := c5
          rw [hs _ (by omega), zeq (by unfold zr; omega) (by unfold zr; omega)] at c5
          exact skip (Or.inr c5)
        · have c5 : ¬ σ 24 b = Int32.ofInt (-1) := c5
          rw [hs _ (by omega), zeq (by unfold zr; omega) (by unfold zr; omega)] at c5
          refine s_wouldChange d (L := L) (A := A) (B := B) _ hwf hx ha (show b < cnt A by omega) (by omega) (ga := gin A a (A 4 a)) (gb := gin A b (A 4 b)) (by unfold gin; omega) (by unfold gin; omega) (hg a ha) (hg b (by omega)) hL7 hlen ht h1 hs c4 c5 (fun σ2 m1 m2 m3 => ?_)
          have hn := next σ2 m1 ⟨fun q hq => by rw [m1 22 (by decide) (by decide)]; exact hg q hq, by rw [m1 23 (by decide) (by decide)]; exact ht, m2, m3⟩
          by_cases e : CZ A L a b (gin A a (A 4 a)) (gin A b (A 4 b)) = true
          · rw [if_pos e]
            have e1 : cpair A L a b = 1 := by
              unfold cpair
              rw [if_pos ⟨c4, c5, e⟩]
            rw [e1, ← zadd acc] at hn
            exact And.intro (fun q => absurd q (by decide)) (fun _ => hn)
          · rw [if_neg e]
            have e1 : cpair A L a b = 0 := by
              unfold cpair
              rw [if_neg (fun q => e q.2.2)]
            rw [e1, Int.add_zero] at hn
            exact And.intro (fun _ => hn) (fun q => absurd rfl q)
set_option maxHeartbeats 1000000 in
set_option maxRecDepth 100000 in
theorem s_changes_out (d : Nat) (Q : am_Q) {L : List Nat} (hwf : WF A B) (hL7 : ∀ q ∈ L, q < 7) (hlen : L.length ≤ 7) : ∀ (k a : Nat) (acc : Int) (x3 : Value) (σ : Nat → Nat → Int32), a + k = cnt A → 0 ≤ acc → acc + 7 * k ≤ 900 → IX A B σ → chS A L σ →
    (∀ σ' : Nat → Nat → Int32, (∀ c, c ≠ 24 → c ≠ 25 → σ' c = σ c) → Q (some (.int (Int32.ofInt (acc + sumr (fun a => sumr (cpair A L a) (a + 1) (cnt A - (a + 1))) a k)))) (lo_M n w3 g σ' τ r1 r2)) →
    am_wp (am_d (d + 4)) T_X9_changes Q (8, [.ref 4, .int (Int32.ofInt acc), .int (Int32.ofInt (a : Int)), x3], [], 0, 0) (lo_M n w3 g σ τ r1 r2) := by
  have hc := cnt_le A
  intro k
  induction k with
  | zero =>
    intro a acc x3 σ ha h0 hacc hx hch h
    have hae : a = cnt A := by omega
    subst hae
    refine am_wp_go (am_d_cm _) (fun pc => Nat.beq pc 8 || Nat.beq pc 23) 60 ?_
    refine And.intro (fun c1 => ?_) (fun c1 => absurd ?_ c1)
    · have h := h σ (fun _ _ _ => rfl)
      unfold sumr at h
      rw [Int.add_zero] at h
      exact h
    · show σ 5 4 ≤ Int32.ofInt (cnt A : Int)
      rw [hx.1.2.2.1]
      exact Int32.le_refl _
  | succ k ih =>
    intro a acc x3 σ ha h0 hacc hx hch h
    refine am_wp_go (am_d_cm _) (fun pc => Nat.beq pc 8 || Nat.beq pc 23) 60 ?_
    refine And.intro (fun c1 => ?_) (fun c1 => ?_)
    · have c1 : σ 5 4 ≤ Int32.ofInt (a : Int) := c1
      rw [hx.1.2.2.1, zle (by unfold zr; omega) (by unfold zr; omega)] at c1
      omega
    · show am_wp _ _ _ (23, [.ref 4, .int (Int32.ofInt acc), .int (Int32.ofInt (a : Int)), .int (Int32.ofInt (a : Int) + Int32.ofInt 1)], [], 0, 0) _
      rw [zadd, show ((a : Int) + 1) = ((a + 1 : Nat) : Int) by omega]
      refine s_changes_in d (fun _ _ => True) Q hwf (by omega) hL7 hlen (cnt A - (a + 1)) (a + 1) acc σ (by omega) (by omega) h0 (by omega) hx hch (fun σ' j1 j2 => ?_)
      have sr := sumr_rng (f := cpair A L a) (M := 1) (cpair01 A L a) (cnt A - (a + 1)) (a + 1)
      refine ih (a + 1) _ _ σ' (by omega) (by omega) (by omega) (IX_fr hx (fun c e1 e2 => j1 c (fun q => e2 (by subst q; unfold scr; omega)) (fun q => e2 (by subst q; unfold scr; omega))) (by rw [j1 4 (by decide) (by decide)])) j2 (fun σ2 m1 => ?_)
      have h := h σ2 (fun c e1 e2 => by rw [m1 c e1 e2, j1 c e1 e2])
      rw [show sumr (fun a => sumr (cpair A L a) (a + 1) (cnt A - (a + 1))) a (k + 1) = sumr (cpair A L a) (a + 1) (cnt A - (a + 1)) + sumr (fun a => sumr (cpair A L a) (a + 1) (cnt A - (a + 1))) (a + 1) k from rfl, ← Int.add_assoc] at h
      exact h
set_option maxRecDepth 100000 in
theorem c_changes (d : Nat) (Q : am_Q) (hx : IX A B σ) (hwf : WF A B)
    (h : ∀ σ' : Nat → Nat → Int32, (∀ c, c ≠ 22 → c ≠ 23 → c ≠ 24 → c ≠ 25 → σ' c = σ c) → (∀ i, i ≠ 5 → σ' 23 i = σ 23 i) → Q (some (.int (Int32.ofInt (f_changes A)))) (lo_M n w3 g σ' τ r1 r2)) : am_d (d + 5) 67 [.ref 4] 0 0 (lo_M n w3 g σ τ r1 r2) Q := by
  have hc := cnt_le A
  refine am_goT T_X9_changes [.ref 4, .null, .null, .null] rfl rfl (fun pc => Nat.beq pc 8 || Nat.beq pc 23) 60 ?_
  refine s_seatAll d _ hx hwf (fun σ' k1 k2 k3 k4 k5 k6 => ?_)
  have hx' : IX A B σ' := IX_fr hx (fun c e1 e2 => k1 c (fun q => e2 (by subst q; unfold scr; omega)) (fun q => e2 (by subst q; unfold scr; omega)) (fun q => e2 (by subst q; unfold scr; omega)) (fun q => e2 (by subst q; unfold scr; omega))) (by rw [k1 4 (by decide) (by decide) (by decide) (by decide)])
  refine s_changes_out d Q (L := SL A (A 3 1) (fun _ => true) (A 4)) hwf (fun q hq => by have := SL_lt q hq; omega) (SL_len _ _ _ _) (cnt A) 0 0 .null σ' (by omega) (by omega) (by omega) hx' ⟨fun q hq => by rw [k3, if_pos hq], k4, k5, k6⟩ (fun σ2 m1 => ?_)
  have h := h σ2 (fun c e1 e2 e3 e4 => by rw [m1 c e3 e4, k1 c e1 e2 e3 e4]) (fun i hi => by rw [m1 23 (by decide) (by decide), k2 i hi])
  rw [Int.zero_add]
  exact h
end CS
end
section
/-! person, waits, rain, set, love, fault: the class -/
/-- the kept answers are dropped -/
def drp (σ : Nat → Nat → Int32) : Nat → Nat → Int32 := am_u (am_u (am_u σ 4 14 (Int32.ofInt 0)) 4 15 (Int32.ofInt 0)) 4 16 (Int32.ofInt 0)
theorem drp_ne {σ : Nat → Nat → Int32} {c : Nat} (h : c ≠ 4) : drp σ c = σ c := by
  unfold drp
  rw [am_u_ne h, am_u_ne h, am_u_ne h]
theorem drp_4 {σ : Nat → Nat → Int32} {i : Nat} : drp σ 4 i = if i = 16 ∨ i = 15 ∨ i = 14 then Int32.ofInt 0 else σ 4 i := by
  unfold drp
  rw [am_u_at, am_u_at, am_u_at]
  by_cases e1 : i = 16
  · rw [if_pos e1, if_pos (Or.inl e1)]
  · rw [if_neg e1]
    by_cases e2 : i = 15
    · rw [if_pos e2, if_pos (Or.inr (Or.inl e2))]
    · rw [if_neg e2]
      by_cases e3 : i = 14
      · rw [if_pos e3, if_pos (Or.inr (Or.inr e3))]
      · rw [if_neg e3, if_neg (fun q => q.elim e1 (fun q => q.elim e2 e3))]
section TE
variable {n w3 : Nat} {g : Nat → Nat × Nat} {σ : Nat → Nat → Int32} {τ : Nat → Nat → Int64} {r1 r2 : Nat} {A : aN} {B : aZ}
set_option maxRecDepth 100000 in
theorem s_drop (d : Nat) (Q : am_Q) (h : Q none (lo_M n w3 g (drp σ) τ r1 r2)) : am_d (d + 1) 94 [.ref 4] 0 0 (lo_M n w3 g σ τ r1 r2) Q := by
  refine am_goT T_X9_dropAnswers [.ref 4] rfl rfl (fun _ => false) 30 ?_
  exact And.intro (Or.inl rfl) (And.intro (Or.inl rfl) (And.intro (Or.inl rfl) h))
set_option maxRecDepth 100000 in
theorem s_isNumber (d : Nat) (M : am_M) (Q : am_Q) {v : Int} (hv : zr v) (h : Q (some (.int (if 0 ≤ v ∧ v ≤ 6 then 1 else 0))) M) : am_d (d + 2) 89 [.int (Int32.ofInt v)] 0 0 M Q := by
  refine am_goT T_X9_isNumber [.int (Int32.ofInt v)] rfl rfl (fun _ => false) 30 ?_
  refine s_withinZ d hv (by unfold zr; omega) (by unfold zr; omega) _ _ ?_
  by_cases c : 0 ≤ v ∧ v ≤ 6
  · rw [if_pos c] at h ⊢
    exact And.intro (Or.inr rfl) h
  · rw [if_neg c] at h ⊢
    exact And.intro (Or.inl rfl) h
set_option maxRecDepth 100000 in
theorem c_fault (d : Nat) (Q : am_Q) (hx : IX A B σ) (h : Q (some (.int (Int32.ofInt (flt A)))) (lo_M n w3 g σ τ r1 r2)) : am_d (d + 1) 54 [.ref 4] 0 0 (lo_M n w3 g σ τ r1 r2) Q := by
  rw [← hx.1.2.2.2.1] at h
  refine am_goT T_X9_fault [.ref 4] rfl rfl (fun _ => false) 30 ?_
  exact h
def f_person (A : aN) (z y : Int) : Int := if (0 ≤ z ∧ z < cnt A) ∧ 0 ≤ y ∧ y ≤ 3 then (if y = 0 then (mn A z.toNat : Int) else if y = 1 then (wsh A z.toNat : Int) else if y = 2 then (gin A z.toNat (A 4 z.toNat) : Int) else (prz (A 2) (gin A z.toNat (A 4 z.toNat)) : Int) - (prz (A 2) (mn A z.toNat) : Int)) else -2
set_option maxRecDepth 100000 in
theorem c_person (d : Nat) (Q : am_Q) {z y : Int} (hz : zr z) (hy : zr y) (hx : IX A B σ) (hwf : WF A B) (h : Q (some (.int (Int32.ofInt (f_person A z y)))) (lo_M n w3 g σ τ r1 r2)) : am_d (d + 3) 55 [.ref 4, .int (Int32.ofInt z), .int (Int32.ofInt y)] 0 0 (lo_M n w3 g σ τ r1 r2) Q := by
  have hc := cnt_le A
  unfold f_person at h
  have bad : ¬ ((0 ≤ z ∧ z < cnt A) ∧ 0 ≤ y ∧ y ≤ 3) → Q (some (.int (Int32.ofInt (-2)))) (lo_M n w3 g σ τ r1 r2) := by
    intro c
    rw [if_neg c] at h
    exact h
  refine am_goT T_X9_person [.ref 4, .int (Int32.ofInt z), .int (Int32.ofInt y), .null] rfl rfl (fun _ => false) 60 ?_
  refine s_isThere d _ hz hc hx.1.2.2.1 ?_
  by_cases c : 0 ≤ z ∧ z < cnt A
  · rw [if_pos c]
    refine And.intro (fun q => absurd q (by decide)) (fun _ => ?_)
    refine s_withinZ (d + 1) hy (by unfold zr; omega) (by unfold zr; omega) _ _ ?_
    by_cases cy : 0 ≤ y ∧ y ≤ 3
    · rw [if_pos cy]
      refine And.intro (fun q => absurd q (by decide)) (fun _ => ?_)
      rw [if_pos ⟨c, cy⟩] at h
      have hp : z.toNat < cnt A := by omega
      have hm := mn_lt hp
      have hw := hwf.2.2.2.2.1 z.toNat
      obtain ⟨e1, e2⟩ := hx.1.2.2.2.2 z.toNat hp
      have hR := hx.2.1
      refine ixi z.toNat 7 (by omega) ?_ (by congr 1; omega)
      show am_d (d + 2) 95 [.ref 4, .int (Int32.ofInt z), .int (σ 21 z.toNat)] 0 0 _ _
      rw [hx.2.2.2.2.1 z.toNat (by omega), show Int32.ofInt z = Int32.ofInt (z.toNat : Int) by congr 1; omega]
      refine s_minuteInside (d + 1) _ (by omega) e1 (by omega) (by omega) ?_
      have hgi : min 59 (mn A z.toNat + A 4 z.toNat) = gin A z.toNat (A 4 z.toNat) := rfl
      rw [hgi]
      have hg59 : gin A z.toNat (A 4 z.toNat) ≤ 59 := by unfold gin; omega
      have ty : (Int32.ofInt y).toInt = y := zI_to hy
      refine And.intro (And.intro (fun c0 => ?_) (And.intro (fun c0 => ?_) (And.intro (fun c0 => ?_) trivial))) (fun c0 => ?_)
      · rw [ty] at c0
        rw [if_pos c0, ← e1] at h
        exact ixi z.toNat 7 (by omega) h
      · rw [ty] at c0
        rw [if_neg (by omega), if_pos (by omega), ← e2] at h
        exact ixi z.toNat 7 (by omega) h
      · rw [ty] at c0
        rw [if_neg (by omega), if_neg (by omega), if_pos (by omega)] at h
        exact h
      · rw [ty] at c0
        rw [if_neg (by omega), if_neg (by omega), if_neg (by omega), ← zsub, ← hR _ (by omega), ← hR _ (by omega)] at h
        refine ixi z.toNat 7 (by omega) ?_
        show am_d (d + 2) 35 [.ref 9, .int (σ 7 z.toNat), .int (Int32.ofInt (gin A z.toNat (A 4 z.toNat) : Int))] 0 0 _ _
        exact s_between (d + 1) _ _ _ (i := mn A z.toNat) (j := gin A z.toNat (A 4 z.toNat)) ⟨e1, by omega⟩ ⟨rfl, by omega⟩ h
    · rw [if_neg cy]
      exact And.intro (fun _ => bad (fun q => cy q.2)) (fun q => absurd rfl q)
  · rw [if_neg c]
    exact And.intro (fun _ => bad (fun q => c q.1)) (fun q => absurd rfl q)
set_option maxRecDepth 100000 in
theorem c_waits (d : Nat) (Q : am_Q) {z y : Int} (hz : zr z) (hy : zr y) (hx : IX A B σ)
    (hbad : ¬ ((0 ≤ z ∧ z ≤ 6) ∧ 0 ≤ y ∧ y ≤ 59) → Q (some (.int (Int32.ofInt (-2)))) (lo_M n w3 g σ τ r1 r2))
    (hok : (0 ≤ z ∧ z ≤ 6) ∧ 0 ≤ y ∧ y ≤ 59 → Q (some (.int (Int32.ofInt (A 4 z.toNat : Int)))) (lo_M n w3 g (am_u (am_u σ 21 z.toNat (Int32.ofInt y)) 4 15 (Int32.ofInt 0)) τ r1 r2)) : am_d (d + 3) 56 [.ref 4, .int (Int32.ofInt z), .int (Int32.ofInt y)] 0 0 (lo_M n w3 g σ τ r1 r2) Q := by
  refine am_goT T_X9_waits [.ref 4, .int (Int32.ofInt z), .int (Int32.ofInt y), .null] rfl rfl (fun _ => false) 60 ?_
  refine s_isNumber d _ _ hz ?_
  by_cases c : 0 ≤ z ∧ z ≤ 6
  · rw [if_pos c]
    refine And.intro (fun q => absurd q (by decide)) (fun _ => ?_)
    refine s_withinZ (d + 1) hy (by unfold zr; omega) (by unfold zr; omega) _ _ ?_
    by_cases cy : 0 ≤ y ∧ y ≤ 59
    · rw [if_pos cy]
      refine And.intro (fun q => absurd q (by decide)) (fun _ => ?_)
      have hok := hok ⟨c, cy⟩
      rw [← hx.2.2.2.2.1 z.toNat (by omega)] at hok
      refine ixi z.toNat 7 (by omega) ?_ (by congr 1; omega)
      refine ixi z.toNat 7 (by omega) ?_ (by congr 1; omega)
      exact And.intro (Or.inl rfl) hok
    · rw [if_neg cy]
      exact And.intro (fun _ => hbad (fun q => cy q.2)) (fun q => absurd rfl q)
  · rw [if_neg c]
    exact And.intro (fun _ => hbad (fun q => c q.1)) (fun q => absurd rfl q)
set_option maxRecDepth 100000 in
theorem s_turn_loop (d : Nat) (Q : am_Q) {x1 x2 x3 : Int32} : ∀ (k m : Nat) (σ : Nat → Nat → Int32), m + k = 61 → (Q none (lo_M n w3 g (am_ur σ 10 (fun i => if m ≤ i ∧ i < 61 then σ 10 i + x3 else σ 10 i)) τ r1 r2)) → am_wp (am_d d) T_X5_turn Q (16, [.ref 9, .int x1, .int x2, .int x3, .int (Int32.ofInt (m : Int))], [], 0, 0) (lo_M n w3 g σ τ r1 r2) := by
  intro k
  induction k with
  | zero =>
    intro m σ hm h
    refine am_wp_go (am_d_cm _) (fun pc => Nat.beq pc 16) 60 ?_
    refine And.intro (fun c1 => ?_) (fun c1 => absurd ?_ c1)
    · have e : am_ur σ 10 (fun i => if m ≤ i ∧ i < 61 then σ 10 i + x3 else σ 10 i) = σ := by
        funext c i
        unfold am_ur
        split
        · next hc =>
          dsimp only
          rw [if_neg (by omega), hc]
        · rfl
      rw [e] at h
      exact h
    · show Int32.ofInt 60 < Int32.ofInt (m : Int)
      rw [zlt (by unfold zr; omega) (by unfold zr; omega)]
      omega
  | succ k ih =>
    intro m σ hm h
    refine am_wp_go (am_d_cm _) (fun pc => Nat.beq pc 16) 60 ?_
    refine And.intro (fun c1 => ?_) (fun c1 => ?_)
    · have c1 : Int32.ofInt 60 < Int32.ofInt (m : Int) := c1
      rw [zlt (by unfold zr; omega) (by unfold zr; omega)] at c1
      omega
    · refine ixi m 61 (by omega) ?_
      refine ixi m 61 (by omega) ?_
      show am_wp _ _ _ (16, [.ref 9, .int x1, .int x2, .int x3, .int (Int32.ofInt (m : Int) + Int32.ofInt 1)], [], 0, 0) (lo_M n w3 g (am_u σ 10 m (σ 10 m + x3)) τ r1 r2)
      rw [zadd, show ((m : Int) + 1) = ((m + 1 : Nat) : Int) by omega]
      refine ih (m + 1) _ (by omega) ?_
      have e : am_ur (am_u σ 10 m (σ 10 m + x3)) 10 (fun i => if m + 1 ≤ i ∧ i < 61 then am_u σ 10 m (σ 10 m + x3) 10 i + x3 else am_u σ 10 m (σ 10 m + x3) 10 i) = am_ur σ 10 (fun i => if m ≤ i ∧ i < 61 then σ 10 i + x3 else σ 10 i) := by
        funext c i
        unfold am_ur
        split
        · dsimp only
          rw [am_u_at]
          by_cases e1 : i = m
          · subst e1
            rw [if_neg (by omega), if_pos rfl, if_pos (by omega)]
          · rw [if_neg e1]
            by_cases e2 : m + 1 ≤ i ∧ i < 61
            · rw [if_pos e2, if_pos (by omega)]
            · rw [if_neg e2, if_neg (by omega)]
        · next hc => rw [am_u_ne hc]
      rw [e]
      exact h
set_option maxRecDepth 100000 in
theorem c_rain (d : Nat) (Q : am_Q) {z y : Int} (hz : zr z) (hy : zr y) (hx : IX A B σ)
    (hbad : ¬ ((0 ≤ z ∧ z ≤ 59) ∧ 0 ≤ y ∧ y ≤ 1) → Q (some (.int (Int32.ofInt (-2)))) (lo_M n w3 g σ τ r1 r2))
    (hok : (0 ≤ z ∧ z ≤ 59) ∧ 0 ≤ y ∧ y ≤ 1 → Q (some (.int (Int32.ofInt (A 2 z.toNat : Int)))) (lo_M n w3 g (drp (am_ur σ 10 (fun i => if z.toNat + 1 ≤ i ∧ i < 61 then σ 10 i + (Int32.ofInt y - Int32.ofInt (A 2 z.toNat : Int)) else σ 10 i))) τ r1 r2)) : am_d (d + 3) 57 [.ref 4, .int (Int32.ofInt z), .int (Int32.ofInt y)] 0 0 (lo_M n w3 g σ τ r1 r2) Q := by
  have hR := hx.2.1
  refine am_goT T_X9_rain [.ref 4, .int (Int32.ofInt z), .int (Int32.ofInt y), .null] rfl rfl (fun _ => false) 60 ?_
  refine s_withinZ (d + 1) hz (by unfold zr; omega) (by unfold zr; omega) _ _ ?_
  by_cases c : 0 ≤ z ∧ z ≤ 59
  · rw [if_pos c]
    refine And.intro (fun q => absurd q (by decide)) (fun _ => ?_)
    refine s_withinZ (d + 1) hy (by unfold zr; omega) (by unfold zr; omega) _ _ ?_
    by_cases cy : 0 ≤ y ∧ y ≤ 1
    · rw [if_pos cy]
      refine And.intro (fun q => absurd q (by decide)) (fun _ => ?_)
      have hok := hok ⟨c, cy⟩
      have ez : Int32.ofInt z = Int32.ofInt (z.toNat : Int) := by congr 1; omega
      have ez1 : Int32.ofInt z + Int32.ofInt 1 = Int32.ofInt ((z.toNat + 1 : Nat) : Int) := by rw [zadd]; congr 1; omega
      have eb : σ 10 (z.toNat + 1) - σ 10 z.toNat = Int32.ofInt (A 2 z.toNat : Int) := by
        rw [hR _ (by omega), hR _ (by omega), zsub]
        congr 1
        show ((prz (A 2) z.toNat + A 2 z.toNat : Nat) : Int) - _ = _
        omega
      refine s_between (d + 1) _ _ _ (i := z.toNat) (j := z.toNat + 1) ⟨ez, by omega⟩ ⟨ez1, by omega⟩ ?_
      show am_d (d + 2) 36 [.ref 9, .int (Int32.ofInt z), .int (Int32.ofInt y)] 0 0 _ _
      refine am_goT T_X5_turn [.ref 9, .int (Int32.ofInt z), .int (Int32.ofInt y), .null, .null] rfl rfl (fun pc => Nat.beq pc 16) 60 ?_
      refine s_between d _ _ _ (i := z.toNat) (j := z.toNat + 1) ⟨ez, by omega⟩ ⟨ez1, by omega⟩ ?_
      show am_wp _ _ _ (16, [.ref 9, .int (Int32.ofInt z), .int (Int32.ofInt y), .int (Int32.ofInt y - (σ 10 (z.toNat + 1) - σ 10 z.toNat)), .int (Int32.ofInt z + Int32.ofInt 1)], [], 0, 0) _
      rw [ez1]
      refine s_turn_loop (d + 1) _ (61 - (z.toNat + 1)) (z.toNat + 1) σ (by omega) ?_
      refine s_drop (d + 1) _ ?_
      rw [← eb] at hok
      exact hok
    · rw [if_neg cy]
      exact And.intro (fun _ => hbad (fun q => cy q.2)) (fun q => absurd rfl q)
  · rw [if_neg c]
    exact And.intro (fun _ => hbad (fun q => c q.1)) (fun q => absurd rfl q)
/-- least and most of each setting -/
def leastS : Nat → Int
  | 2 => 1
  | 5 => 1
  | _ => 0
def mostS : Nat → Int
  | 0 => 60
  | 1 => 1
  | 2 => 4
  | 5 => 15
  | _ => 9
set_option maxRecDepth 100000 in
theorem c_set (d : Nat) (Q : am_Q) {z y : Int} (hz : zr z) (hy : zr y) (hx : IX A B σ) (h0 : ∀ i, i < 6 → σ 0 i = Int32.ofInt (leastS i)) (h1 : ∀ i, i < 6 → σ 1 i = Int32.ofInt (mostS i))
    (hbad : ¬ ((0 ≤ z ∧ z ≤ 5) ∧ leastS z.toNat ≤ y ∧ y ≤ mostS z.toNat) → Q (some (.int (Int32.ofInt (-2)))) (lo_M n w3 g σ τ r1 r2))
    (hok : (0 ≤ z ∧ z ≤ 5) ∧ leastS z.toNat ≤ y ∧ y ≤ mostS z.toNat → Q (some (.int (Int32.ofInt (A 3 z.toNat : Int)))) (lo_M n w3 g (drp (am_u σ 12 z.toNat (Int32.ofInt y))) τ r1 r2)) : am_d (d + 3) 58 [.ref 4, .int (Int32.ofInt z), .int (Int32.ofInt y)] 0 0 (lo_M n w3 g σ τ r1 r2) Q := by
  refine am_goT T_X9_set [.ref 4, .int (Int32.ofInt z), .int (Int32.ofInt y), .null] rfl rfl (fun _ => false) 60 ?_
  refine s_withinZ (d + 1) hz (by unfold zr; omega) (by unfold zr; omega) _ _ ?_
  by_cases c : 0 ≤ z ∧ z ≤ 5
  · rw [if_pos c]
    refine And.intro (fun q => absurd q (by decide)) (fun _ => ?_)
    have hl : zr (leastS z.toNat) ∧ zr (mostS z.toNat) := by
      rcases (show z.toNat = 0 ∨ z.toNat = 1 ∨ z.toNat = 2 ∨ z.toNat = 3 ∨ z.toNat = 4 ∨ z.toNat = 5 by omega) with e | e | e | e | e | e <;> rw [e] <;> simp [zr, leastS, mostS]
    refine ixi z.toNat 6 (by omega) ?_ (by congr 1; omega)
    refine ixi z.toNat 6 (by omega) ?_ (by congr 1; omega)
    show am_d (d + 2) 88 [.int (Int32.ofInt y), .int (σ 0 z.toNat), .int (σ 1 z.toNat)] 0 0 _ _
    rw [h0 _ (by omega), h1 _ (by omega)]
    refine s_withinZ (d + 1) hy hl.1 hl.2 _ _ ?_
    by_cases cy : leastS z.toNat ≤ y ∧ y ≤ mostS z.toNat
    · rw [if_pos cy]
      refine And.intro (fun q => absurd q (by decide)) (fun _ => ?_)
      have hok := hok ⟨c, cy⟩
      rw [← hx.2.2.1 z.toNat (by omega)] at hok
      refine ixi z.toNat 6 (by omega) ?_ (by congr 1; omega)
      refine ixi z.toNat 6 (by omega) ?_ (by congr 1; omega)
      refine s_drop (d + 1) (σ := am_u σ 12 z.toNat (Int32.ofInt y)) _ ?_
      exact hok
    · rw [if_neg cy]
      exact And.intro (fun _ => hbad (fun q => cy q.2)) (fun q => absurd rfl q)
  · rw [if_neg c]
    exact And.intro (fun _ => hbad (fun q => c q.1)) (fun q => absurd rfl q)
end TE
end
section
/-! the text, and who is there by it: the class -/
section PE
variable {n w3 : Nat} {g : Nat → Nat × Nat} {σ : Nat → Nat → Int32} {τ : Nat → Nat → Int64} {r1 r2 : Nat} {A : aN} {B : aZ}
set_option maxRecDepth 100000 in
theorem s_fits (d : Nat) (M : am_M) (Q : am_Q) {b c : Nat} (hb : b ≤ 255) (hc : c < 4) (h : Q (some (.int (if fitc b c = true then 1 else 0))) M) : am_d (d + 2) 32 [.int (Int32.ofInt (b : Int)), .int (Int32.ofInt (c : Int))] 0 0 M Q := by
  have tc : (Int32.ofInt (c : Int)).toInt = (c : Int) := zI_to (by unfold zr; omega)
  have rng : ∀ lo hi : Nat, lo ≤ 255 → hi ≤ 255 → fitc b c = (Nat.ble lo b && Nat.ble b hi) → am_d (d + 1) 88 [.int (Int32.ofInt (b : Int)), .int (Int32.ofInt (lo : Int)), .int (Int32.ofInt (hi : Int))] 0 0 M (fun r M' => ∃ x : Int32, r = some (.int x) ∧ (x = 0 ∨ x = 1) ∧ Q (some (.int x)) M') := by
    intro lo hi h1 h2 he
    refine s_withinZ d (by unfold zr; omega) (by unfold zr; omega) (by unfold zr; omega) _ _ ⟨_, rfl, ?_, ?_⟩
    · split
      · exact Or.inr rfl
      · exact Or.inl rfl
    · by_cases c1 : (lo : Int) ≤ b ∧ (b : Int) ≤ hi
      · rw [if_pos c1]
        rw [if_pos (by rw [he, Bool.and_eq_true]; exact ⟨Nat.ble_eq_true_of_le (by omega), Nat.ble_eq_true_of_le (by omega)⟩)] at h
        exact h
      · rw [if_neg c1]
        rw [if_neg (by rw [he, Bool.and_eq_true]; intro q; exact c1 ⟨by have := Nat.le_of_ble_eq_true q.1; omega, by have := Nat.le_of_ble_eq_true q.2; omega⟩)] at h
        exact h
  refine am_goT T_X4_fits [.int (Int32.ofInt (b : Int)), .int (Int32.ofInt (c : Int))] rfl rfl (fun _ => false) 60 ?_
  refine And.intro (And.intro (fun c0 => ?_) (And.intro (fun c0 => ?_) (And.intro (fun c0 => ?_) trivial))) (fun c0 => ?_)
  · rw [tc] at c0
    have e : c = 0 := by omega
    refine am_d_mono (d + 1) (rng 48 53 (by omega) (by omega) (by rw [e]; rfl)) (fun r M' q => ?_)
    obtain ⟨x, rfl, q1, q2⟩ := q
    exact And.intro q1 q2
  · rw [tc] at c0
    have e : c = 1 := by omega
    refine am_d_mono (d + 1) (rng 48 57 (by omega) (by omega) (by rw [e]; rfl)) (fun r M' q => ?_)
    obtain ⟨x, rfl, q1, q2⟩ := q
    exact And.intro q1 q2
  · rw [tc] at c0
    have e : c = 2 := by omega
    refine am_d_mono (d + 1) (rng 48 54 (by omega) (by omega) (by rw [e]; rfl)) (fun r M' q => ?_)
    obtain ⟨x, rfl, q1, q2⟩ := q
    exact And.intro q1 q2
  · rw [tc] at c0
    have e : c = 3 := by omega
    subst e
    have hf : fitc b 3 = Nat.beq b 59 := rfl
    refine And.intro (fun c1 => And.intro (Or.inr rfl) ?_) (fun c1 => And.intro (Or.inl rfl) ?_)
    · rw [zeq (by unfold zr; omega) (by unfold zr; omega)] at c1
      rw [if_pos (by rw [hf, show b = 59 by omega]; rfl)] at h
      exact h
    · rw [zeq (by unfold zr; omega) (by unfold zr; omega)] at c1
      rw [if_neg (by rw [hf]; intro q; have := Nat.eq_of_beq_eq_true q; omega)] at h
      exact h
set_option maxRecDepth 100000 in
theorem s_findFault_loop (d : Nat) (Q : am_Q) {tx : Nat → Nat} {ln : Nat} (hln : ln ≤ 40) (htx : ∀ i, tx i ≤ 255) (h5 : σ 5 3 = Int32.ofInt (ln : Int)) (h6 : ∀ i, i < 40 → σ 6 i = Int32.ofInt (tx i : Int)) : ∀ (k i : Nat), i + k = ln → Q (some (.int (Int32.ofInt (flz tx ln k i)))) (lo_M n w3 g σ τ r1 r2) → am_wp (am_d (d + 2)) T_X4_findFault Q (2, [.ref 5, .int (Int32.ofInt (i : Int))], [], 0, 0) (lo_M n w3 g σ τ r1 r2) := by
  intro k
  induction k with
  | zero =>
    intro i hi h
    unfold flz at h
    have hrem : σ 5 3 - σ 5 3 / Int32.ofInt 4 * Int32.ofInt 4 = Int32.ofInt ((ln % 4 : Nat) : Int) := by
      rw [h5]
      exact zrem (b := 4) (by omega) (by omega) (by omega)
    refine am_wp_go (am_d_cm _) (fun pc => Nat.beq pc 2) 60 ?_
    refine And.intro (fun c1 => ?_) (fun c1 => absurd ?_ c1)
    · refine And.intro (fun c2 => ?_) (fun c2 => ?_)
      · have c2 : σ 5 3 = 0 := c2
        rw [h5, zeq0 (by unfold zr; omega)] at c2
        rw [if_pos (Or.inl (by omega))] at h
        exact And.intro (fun c3 => absurd c3 (by decide)) (fun _ => h)
      · have c2 : ¬ σ 5 3 = 0 := c2
        rw [h5, zeq0 (by unfold zr; omega)] at c2
        refine And.intro (by decide) ?_
        show am_if (σ 5 3 - σ 5 3 / Int32.ofInt 4 * Int32.ofInt 4 = Int32.ofInt 3) _ _
        rw [hrem]
        refine And.intro (fun c3 => ?_) (fun c3 => ?_)
        · rw [zeq (by unfold zr; omega) (by unfold zr; omega)] at c3
          rw [if_pos (Or.inr (by omega))] at h
          exact And.intro (fun c3 => absurd c3 (by decide)) (fun _ => h)
        · rw [zeq (by unfold zr; omega) (by unfold zr; omega)] at c3
          rw [if_neg (by omega), ← h5] at h
          exact And.intro (fun _ => h) (fun c4 => absurd rfl c4)
    · show σ 5 3 ≤ Int32.ofInt (i : Int)
      rw [h5, zle (by unfold zr; omega) (by unfold zr; omega)]
      omega
  | succ k ih =>
    intro i hi h
    unfold flz at h
    have hrem : Int32.ofInt (i : Int) - Int32.ofInt (i : Int) / Int32.ofInt 4 * Int32.ofInt 4 = Int32.ofInt ((i % 4 : Nat) : Int) := zrem (b := 4) (by omega) (by omega) (by omega)
    refine am_wp_go (am_d_cm _) (fun pc => Nat.beq pc 2) 60 ?_
    refine And.intro (fun c1 => ?_) (fun c1 => ?_)
    · have c1 : σ 5 3 ≤ Int32.ofInt (i : Int) := c1
      rw [h5, zle (by unfold zr; omega) (by unfold zr; omega)] at c1
      omega
    · refine And.intro (fun c2 => ?_) (fun c2 => ?_)
      · rw [zle (by unfold zr; omega) (by unfold zr; omega)] at c2
        rw [if_pos (Or.inl (by omega))] at h
        exact h
      · rw [zle (by unfold zr; omega) (by unfold zr; omega)] at c2
        refine ixi i 40 (by omega) ?_
        refine And.intro (by decide) ?_
        show am_d (d + 2) 32 [.int (σ 6 i), .int (Int32.ofInt (i : Int) - Int32.ofInt (i : Int) / Int32.ofInt 4 * Int32.ofInt 4)] 0 0 _ _
        rw [hrem, h6 i (by omega)]
        refine s_fits d _ _ (htx i) (by omega) ?_
        by_cases e : fitc (tx i) (i % 4) = true
        · rw [if_pos e]
          refine And.intro (fun c3 => absurd c3 (by decide)) (fun _ => ?_)
          rw [if_neg (fun q => by rcases q with q | q; omega; rw [e] at q; cases q)] at h
          have key := ih (i + 1) (by omega) h
          rw [show ((i + 1 : Nat) : Int) = (i : Int) + 1 by omega, ← zadd (i : Int)] at key
          exact key
        · rw [if_neg e]
          rw [if_pos (Or.inr (by simpa using e))] at h
          exact And.intro (fun _ => h) (fun c3 => absurd rfl c3)
set_option maxRecDepth 100000 in
theorem s_findFault (d : Nat) (Q : am_Q) (hln : A 0 0 ≤ 40) (htx : ∀ i, A 1 i ≤ 255) (h5 : σ 5 3 = Int32.ofInt (A 0 0 : Int)) (h6 : ∀ i, i < 40 → σ 6 i = Int32.ofInt (A 1 i : Int)) (h : Q (some (.int (Int32.ofInt (flt A)))) (lo_M n w3 g σ τ r1 r2)) : am_d (d + 3) 31 [.ref 5] 0 0 (lo_M n w3 g σ τ r1 r2) Q := by
  refine am_goT T_X4_findFault [.ref 5, .null] rfl rfl (fun pc => Nat.beq pc 2) 60 ?_
  exact s_findFault_loop d Q hln htx h5 h6 (A 0 0) 0 (by omega) h
set_option maxRecDepth 100000 in
theorem s_figure (d : Nat) (Q : am_Q) {x : Int32} {i t : Nat} (hx : x = Int32.ofInt (i : Int)) (hi : i < 40) (h6 : σ 6 i = Int32.ofInt (t : Int)) (h : Q (some (.int (Int32.ofInt ((t : Int) - 48)))) (lo_M n w3 g σ τ r1 r2)) : am_d (d + 1) 33 [.ref 5, .int x] 0 0 (lo_M n w3 g σ τ r1 r2) Q := by
  rw [← zsub, ← h6] at h
  refine am_goT T_X4_figure [.ref 5, .int x] rfl rfl (fun _ => false) 60 ?_
  refine ixi i 40 hi ?_ hx
  exact h
set_option maxHeartbeats 1000000 in
set_option maxRecDepth 100000 in
theorem s_under_loop (d : Nat) (Q : am_Q) : ∀ (k p : Nat) (σ : Nat → Nat → Int32), p + k = cnt A → σ 5 4 = Int32.ofInt (cnt A : Int) → (∀ i, i < 40 → σ 6 i = Int32.ofInt (A 1 i : Int)) →
    (∀ σ' : Nat → Nat → Int32, (∀ c, c ≠ 7 → c ≠ 8 → σ' c = σ c) → (∀ q, q < cnt A → p ≤ q → σ' 7 q = Int32.ofInt (mn A q : Int) ∧ σ' 8 q = Int32.ofInt (wsh A q : Int)) → (∀ q, q < p → σ' 7 q = σ 7 q ∧ σ' 8 q = σ 8 q) → Q none (lo_M n w3 g σ' τ r1 r2)) →
    am_wp (am_d (d + 1)) T_X4_understand Q (34, [.ref 5, .int (Int32.ofInt (p : Int))], [], 0, 0) (lo_M n w3 g σ τ r1 r2) := by
  have hc := cnt_le A
  intro k
  induction k with
  | zero =>
    intro p σ hp h5 h6 h
    refine am_wp_go (am_d_cm _) (fun pc => Nat.beq pc 34) 60 ?_
    refine And.intro (fun c1 => ?_) (fun c1 => absurd ?_ c1)
    · exact h σ (fun _ _ _ => rfl) (fun q h1 h2 => by omega) (fun _ _ => ⟨rfl, rfl⟩)
    · show σ 5 4 ≤ Int32.ofInt (p : Int)
      rw [h5, zle (by unfold zr; omega) (by unfold zr; omega)]
      omega
  | succ k ih =>
    intro p σ hp h5 h6 h
    have hpc : p < cnt A := by omega
    obtain ⟨e, hl⟩ := cnt_at hpc
    obtain ⟨f1, -⟩ := flt_ok e
    have a0 := (f1 (4 * p) (by omega)).2
    have a1 := (f1 (4 * p + 1) (by omega)).2
    have a2 := (f1 (4 * p + 2) (by omega)).2
    rw [show 4 * p % 4 = 0 by omega] at a0
    rw [show (4 * p + 1) % 4 = 1 by omega] at a1
    rw [show (4 * p + 2) % 4 = 2 by omega] at a2
    unfold fitc at a0 a1 a2
    simp only [Bool.and_eq_true] at a0 a1 a2
    have b0 := Nat.le_of_ble_eq_true a0.1
    have b1 := Nat.le_of_ble_eq_true a1.1
    have b2 := Nat.le_of_ble_eq_true a2.1
    refine am_wp_go (am_d_cm _) (fun pc => Nat.beq pc 34) 60 ?_
    refine And.intro (fun c1 => ?_) (fun c1 => ?_)
    · have c1 : σ 5 4 ≤ Int32.ofInt (p : Int) := c1
      rw [h5, zle (by unfold zr; omega) (by unfold zr; omega)] at c1
      omega
    · refine s_figure d _ (i := 4 * p) (t := A 1 (4 * p)) (by rw [zmul]; congr 1) (by omega) (h6 _ (by omega)) ?_
      refine s_figure d _ (i := 4 * p + 1) (t := A 1 (4 * p + 1)) (by rw [zmul, zadd]; congr 1) (by omega) (h6 _ (by omega)) ?_
      have em : Int32.ofInt 10 * Int32.ofInt ((A 1 (4 * p) : Int) - 48) + Int32.ofInt ((A 1 (4 * p + 1) : Int) - 48) = Int32.ofInt (mn A p : Int) := by
        rw [zmul, zadd]
        congr 1
        unfold mn
        omega
      refine ixi p 7 (by omega) ?_
      refine s_figure d (σ := am_u σ 7 p (Int32.ofInt 10 * Int32.ofInt ((A 1 (4 * p) : Int) - 48) + Int32.ofInt ((A 1 (4 * p + 1) : Int) - 48))) _ (i := 4 * p + 2) (t := A 1 (4 * p + 2)) (by rw [zmul, zadd]; congr 1) (by omega) (h6 _ (by omega)) ?_
      rw [em]
      have ew : Int32.ofInt ((A 1 (4 * p + 2) : Int) - 48) = Int32.ofInt (wsh A p : Int) := by
        congr 1
        unfold wsh
        omega
      rw [ew]
      refine ixi p 7 (by omega) ?_
      show am_wp _ _ _ (34, [.ref 5, .int (Int32.ofInt (p : Int) + Int32.ofInt 1)], [], 0, 0) (lo_M n w3 g (am_u (am_u σ 7 p (Int32.ofInt (mn A p : Int))) 8 p (Int32.ofInt (wsh A p : Int))) τ r1 r2)
      rw [zadd, show ((p : Int) + 1) = ((p + 1 : Nat) : Int) by omega]
      refine ih (p + 1) _ (by omega) h5 h6 (fun σ' j1 j2 j3 => h σ' (fun c e1 e2 => by rw [j1 c e1 e2, am_u_ne e2, am_u_ne e1]) (fun q hq hq2 => ?_) (fun q hq => ?_))
      · by_cases eq : q = p
        · subst eq
          rw [(j3 q (by omega)).1, (j3 q (by omega)).2, am_u_ne (by decide), am_u_at, am_u_at, if_pos rfl, if_pos rfl]
          exact ⟨rfl, rfl⟩
        · exact j2 q hq (by omega)
      · rw [(j3 q (by omega)).1, (j3 q (by omega)).2, am_u_ne (by decide), am_u_at, am_u_at, if_neg (by omega), if_neg (by omega), am_u_ne (by decide)]
        exact ⟨rfl, rfl⟩
set_option maxRecDepth 100000 in
theorem s_understand (d : Nat) (Q : am_Q) (hln : A 0 0 ≤ 40) (htx : ∀ i, A 1 i ≤ 255) (h5 : σ 5 3 = Int32.ofInt (A 0 0 : Int)) (h6 : ∀ i, i < 40 → σ 6 i = Int32.ofInt (A 1 i : Int)) (h : ∀ σ' : Nat → Nat → Int32, (∀ c, c ≠ 5 → c ≠ 7 → c ≠ 8 → σ' c = σ c) → ixP A σ' → Q none (lo_M n w3 g σ' τ r1 r2)) : am_d (d + 4) 30 [.ref 5] 0 0 (lo_M n w3 g σ τ r1 r2) Q := by
  have hr := flt_rng (A := A) hln
  refine am_goT T_X4_understand [.ref 5, .null] rfl rfl (fun pc => Nat.beq pc 34) 60 ?_
  refine s_findFault d _ hln htx h5 h6 ?_
  have fin : am_wp (am_d (d + 3)) T_X4_understand Q (34, [.ref 5, .int (Int32.ofInt ((0 : Nat) : Int))], [], 0, 0) (lo_M n w3 g (am_u (am_u σ 5 5 (Int32.ofInt (flt A))) 5 4 (Int32.ofInt (cnt A : Int))) τ r1 r2) := by
    refine s_under_loop (d + 2) Q (cnt A) 0 _ (by omega) rfl h6 (fun σ' j1 j2 j3 => h σ' (fun c e1 e2 e3 => by rw [j1 c e2 e3, am_u_ne e1, am_u_ne e1]) ⟨?_, ?_, ?_, ?_, fun p hp => j2 p hp (Nat.zero_le _)⟩)
    · rw [j1 5 (by decide) (by decide), am_u_at, if_neg (by decide), am_u_at, if_neg (by decide)]
      exact h5
    · rw [j1 6 (by decide) (by decide), am_u_ne (by decide), am_u_ne (by decide)]
      exact h6
    · rw [j1 5 (by decide) (by decide), am_u_at, if_pos rfl]
    · rw [j1 5 (by decide) (by decide), am_u_at, if_neg (by decide), am_u_at, if_pos rfl]
  refine And.intro (fun c1 => ?_) (fun c1 => ?_)
  · have c1 : Int32.ofInt (flt A) = Int32.ofInt (-1) := c1
    rw [zeq (by unfold zr; omega) (by unfold zr; omega)] at c1
    refine And.intro (by decide) ?_
    have e : (σ 5 3 + Int32.ofInt 1) / Int32.ofInt 4 = Int32.ofInt (cnt A : Int) := by
      rw [h5, zadd, show ((A 0 0 : Int) + 1) = ((A 0 0 + 1 : Nat) : Int) by omega]
      rw [show Int32.ofInt 4 = Int32.ofInt ((4 : Nat) : Int) from rfl, zdiv (by omega) (by omega) (by omega)]
      congr 1
      unfold cnt
      rw [if_pos c1]
    rw [← e] at fin
    exact fin
  · have c1 : ¬ Int32.ofInt (flt A) = Int32.ofInt (-1) := c1
    rw [zeq (by unfold zr; omega) (by unfold zr; omega)] at c1
    have e : cnt A = 0 := by
      unfold cnt
      rw [if_neg c1]
    rw [e] at fin
    exact fin
end PE
end
section
/-! type, wipe, love, facts, Sundays: the class -/
section MO
variable {n w3 : Nat} {g : Nat → Nat × Nat} {σ : Nat → Nat → Int32} {τ : Nat → Nat → Int64} {r1 r2 : Nat} {A : aN} {B : aZ}
/-- a byte more -/
def A_type (A : aN) (b : Nat) : aN := am_u (am_u A 1 (A 0 0) b) 0 0 (A 0 0 + 1)
def A_wipe (A : aN) : aN := am_u A 0 0 0
set_option maxRecDepth 100000 in
theorem c_type (d : Nat) (Q : am_Q) {z : Int} (hz : zr z) (hx : IX A B σ) (hwf : WF A B)
    (hbad : ¬ (0 ≤ z ∧ z ≤ 255) → Q (some (.int (Int32.ofInt (-2)))) (lo_M n w3 g σ τ r1 r2))
    (hfull : (0 ≤ z ∧ z ≤ 255) → 40 ≤ A 0 0 → Q (some (.int (Int32.ofInt (-4)))) (lo_M n w3 g σ τ r1 r2))
    (hok : (0 ≤ z ∧ z ≤ 255) → A 0 0 < 40 → ∀ σ' : Nat → Nat → Int32, (∀ c, c ≠ 5 → c ≠ 6 → c ≠ 7 → c ≠ 8 → σ' c = σ c) → ixP (A_type A z.toNat) σ' → Q (some (.int (Int32.ofInt ((A 0 0 + 1 : Nat) : Int)))) (lo_M n w3 g (drp σ') τ r1 r2)) : am_d (d + 6) 52 [.ref 4, .int (Int32.ofInt z)] 0 0 (lo_M n w3 g σ τ r1 r2) Q := by
  obtain ⟨p1, p2, -⟩ := hx.1
  have h40 := hwf.1
  refine am_goT T_X9_type [.ref 4, .int (Int32.ofInt z)] rfl rfl (fun _ => false) 60 ?_
  refine s_withinZ (d + 4) hz (by unfold zr; omega) (by unfold zr; omega) _ _ ?_
  by_cases c : 0 ≤ z ∧ z ≤ 255
  · rw [if_pos c]
    refine And.intro (fun q => absurd q (by decide)) (fun _ => ?_)
    refine And.intro (fun c1 => ?_) (fun c1 => ?_)
    · have c1 : σ 5 3 < Int32.ofInt 40 := c1
      rw [p1, zlt (by unfold zr; omega) (by unfold zr; omega)] at c1
      refine am_goT (d := d + 4) (k := 28) T_X4_append [.ref 5, .int (Int32.ofInt z)] rfl rfl (fun _ => false) 60 ?_
      refine And.intro (fun c2 => ?_) (fun c2 => ?_)
      · have c2 : Int32.ofInt 40 ≤ σ 5 3 := c2
        rw [p1, zle (by unfold zr; omega) (by unfold zr; omega)] at c2
        omega
      · refine ixi (A 0 0) 40 (by omega) ?_ p1
        have hA0 : A_type A z.toNat 0 0 = A 0 0 + 1 := by
          unfold A_type
          rw [am_u_at, if_pos rfl]
        have hA1 : ∀ i, A_type A z.toNat 1 i = if i = A 0 0 then z.toNat else A 1 i := by
          intro i
          unfold A_type
          rw [am_u_ne (by decide), am_u_at]
        refine s_understand d (A := A_type A z.toNat) (σ := am_u (am_u σ 6 (A 0 0) (Int32.ofInt z)) 5 3 (σ 5 3 + Int32.ofInt 1)) _ (by omega) (fun i => by rw [hA1]; split; omega; exact hwf.2.1 i) ?_ ?_ (fun σ' k1 k2 => ?_)
        · rw [am_u_at, if_pos rfl, hA0, p1, zadd]
          congr 1
        · intro i hi
          rw [am_u_ne (by decide), am_u_at, hA1]
          split
          · congr 1
            omega
          · exact p2 i hi
        · refine s_drop (d + 4) _ ?_
          have h := hok c (by omega) σ' (fun c e1 e2 e3 e4 => by rw [k1 c e1 e3 e4, am_u_ne e1, am_u_ne e2]) k2
          rw [show ((A 0 0 + 1 : Nat) : Int) = ((A_type A z.toNat 0 0 : Nat) : Int) by rw [hA0], ← k2.1] at h
          exact h
    · have c1 : ¬ σ 5 3 < Int32.ofInt 40 := c1
      rw [p1, zlt (by unfold zr; omega) (by unfold zr; omega)] at c1
      exact hfull c (by omega)
  · rw [if_neg c]
    exact And.intro (fun _ => hbad c) (fun q => absurd rfl q)
set_option maxRecDepth 100000 in
theorem c_wipe (d : Nat) (Q : am_Q) (hx : IX A B σ) (hwf : WF A B)
    (h : ∀ σ' : Nat → Nat → Int32, (∀ c, c ≠ 5 → c ≠ 7 → c ≠ 8 → σ' c = σ c) → ixP (A_wipe A) σ' → Q (some (.int (Int32.ofInt (A 0 0 : Int)))) (lo_M n w3 g (drp σ') τ r1 r2)) : am_d (d + 6) 53 [.ref 4] 0 0 (lo_M n w3 g σ τ r1 r2) Q := by
  obtain ⟨p1, p2, -⟩ := hx.1
  refine am_goT T_X9_wipe [.ref 4, .null] rfl rfl (fun _ => false) 60 ?_
  refine am_goT (d := d + 4) (k := 29) T_X4_clear [.ref 5] rfl rfl (fun _ => false) 60 ?_
  have hA0 : A_wipe A 0 0 = 0 := by
    unfold A_wipe
    rw [am_u_at, if_pos rfl]
  have hA1 : A_wipe A 1 = A 1 := by
    unfold A_wipe
    rw [am_u_ne (by decide)]
  refine s_understand d (A := A_wipe A) (σ := am_u σ 5 3 (Int32.ofInt 0)) _ (by omega) (by rw [hA1]; exact hwf.2.1) ?_ (by rw [hA1, am_u_ne (by decide)]; exact p2) (fun σ' k1 k2 => ?_)
  · rw [am_u_at, if_pos rfl, hA0]
    rfl
  · refine s_drop (d + 4) _ ?_
    have h := h σ' (fun c e1 e2 e3 => by rw [k1 c e1 e2 e3, am_u_ne e1]) k2
    rw [← p1] at h
    exact h
set_option maxRecDepth 100000 in
theorem c_forget (d : Nat) (Q : am_Q) (hx : IX A B σ) (h : Q (some (.int (Int32.ofInt (A 0 1 : Int)))) (lo_M n w3 g (am_u (am_u σ 35 3 (Int32.ofInt 0)) 4 16 (Int32.ofInt 0)) τ r1 r2)) : am_d (d + 1) 71 [.ref 4] 0 0 (lo_M n w3 g σ τ r1 r2) Q := by
  rw [← hx.2.2.2.2.2.1.1] at h
  refine am_goT T_X9_forget [.ref 4, .null] rfl rfl (fun _ => false) 60 ?_
  exact And.intro (Or.inl rfl) h
/-- a fact more -/
def fcM (σ : Nat → Nat → Int32) (f : Nat) (k a b : Int32) : Nat → Nat → Int32 := am_u (am_u (am_u (am_u (am_u σ 36 f k) 37 f a) 38 f b) 35 3 (Int32.ofInt ((f + 1 : Nat) : Int))) 4 16 (Int32.ofInt 0)
set_option maxRecDepth 100000 in
theorem s_addFact (d : Nat) (Q : am_Q) {k a b : Int32} (hx : IX A B σ) (hwf : WF A B)
    (hfull : 8 ≤ A 0 1 → Q (some (.int (Int32.ofInt (-4)))) (lo_M n w3 g σ τ r1 r2))
    (hok : A 0 1 < 8 → Q (some (.int (Int32.ofInt ((A 0 1 + 1 : Nat) : Int)))) (lo_M n w3 g (fcM σ (A 0 1) k a b) τ r1 r2)) : am_d (d + 2) 103 [.ref 4, .int k, .int a, .int b] 0 0 (lo_M n w3 g σ τ r1 r2) Q := by
  have f1 := hx.2.2.2.2.2.1.1
  have f8 := hwf.2.2.2.2.2.2.2.1
  refine am_goT T_X9_addFact [.ref 4, .int k, .int a, .int b] rfl rfl (fun _ => false) 60 ?_
  refine And.intro (fun c1 => ?_) (fun c1 => ?_)
  · have c1 : σ 35 3 < Int32.ofInt 8 := c1
    rw [f1, zlt (by unfold zr; omega) (by unfold zr; omega)] at c1
    have hok := hok (by omega)
    have e1 : Int32.ofInt ((A 0 1 + 1 : Nat) : Int) = σ 35 3 + Int32.ofInt 1 := by rw [f1, zadd]; congr 1
    unfold fcM at hok
    rw [e1] at hok
    refine am_goT (d := d) (k := 9) T_X1_add [.ref 35, .int k, .int a, .int b] rfl rfl (fun _ => false) 60 ?_
    refine And.intro (fun c2 => ?_) (fun c2 => ?_)
    · have c2 : Int32.ofInt 8 ≤ σ 35 3 := c2
      rw [f1, zle (by unfold zr; omega) (by unfold zr; omega)] at c2
      omega
    · refine ixi (A 0 1) 8 (by omega) ?_ f1
      refine ixi (A 0 1) 8 (by omega) ?_ f1
      refine ixi (A 0 1) 8 (by omega) ?_ f1
      exact And.intro (Or.inl rfl) hok
  · have c1 : ¬ σ 35 3 < Int32.ofInt 8 := c1
    rw [f1, zlt (by unfold zr; omega) (by unfold zr; omega)] at c1
    exact hfull (by omega)
set_option maxRecDepth 100000 in
theorem c_sat (d : Nat) (Q : am_Q) {z y : Int} (hz : zr z) (hy : zr y) (hx : IX A B σ) (hwf : WF A B)
    (hbad : ¬ ((0 ≤ z ∧ z ≤ 6) ∧ 0 ≤ y ∧ y ≤ 6) → Q (some (.int (Int32.ofInt (-2)))) (lo_M n w3 g σ τ r1 r2))
    (hfull : (0 ≤ z ∧ z ≤ 6) ∧ 0 ≤ y ∧ y ≤ 6 → 8 ≤ A 0 1 → Q (some (.int (Int32.ofInt (-4)))) (lo_M n w3 g σ τ r1 r2))
    (hok : (0 ≤ z ∧ z ≤ 6) ∧ 0 ≤ y ∧ y ≤ 6 → A 0 1 < 8 → Q (some (.int (Int32.ofInt ((A 0 1 + 1 : Nat) : Int)))) (lo_M n w3 g (fcM σ (A 0 1) (Int32.ofInt 0) (Int32.ofInt z) (Int32.ofInt y)) τ r1 r2)) : am_d (d + 3) 69 [.ref 4, .int (Int32.ofInt z), .int (Int32.ofInt y)] 0 0 (lo_M n w3 g σ τ r1 r2) Q := by
  refine am_goT T_X9_sat [.ref 4, .int (Int32.ofInt z), .int (Int32.ofInt y)] rfl rfl (fun _ => false) 60 ?_
  refine s_isNumber d _ _ hz ?_
  by_cases c : 0 ≤ z ∧ z ≤ 6
  · rw [if_pos c]
    refine And.intro (fun q => absurd q (by decide)) (fun _ => ?_)
    refine s_withinZ (d + 1) hy (by unfold zr; omega) (by unfold zr; omega) _ _ ?_
    by_cases cy : 0 ≤ y ∧ y ≤ 6
    · rw [if_pos cy]
      refine And.intro (fun q => absurd q (by decide)) (fun _ => ?_)
      exact s_addFact d _ hx hwf (fun e => hfull ⟨c, cy⟩ e) (fun e => hok ⟨c, cy⟩ e)
    · rw [if_neg cy]
      exact And.intro (fun _ => hbad (fun q => cy q.2)) (fun q => absurd rfl q)
  · rw [if_neg c]
    exact And.intro (fun _ => hbad (fun q => c q.1)) (fun q => absurd rfl q)
set_option maxRecDepth 100000 in
theorem c_front (d : Nat) (Q : am_Q) {z y : Int} (hz : zr z) (hy : zr y) (hx : IX A B σ) (hwf : WF A B)
    (hbad : ¬ ((0 ≤ z ∧ z ≤ 6) ∧ (0 ≤ y ∧ y ≤ 6) ∧ z ≠ y) → Q (some (.int (Int32.ofInt (-2)))) (lo_M n w3 g σ τ r1 r2))
    (hfull : (0 ≤ z ∧ z ≤ 6) ∧ (0 ≤ y ∧ y ≤ 6) ∧ z ≠ y → 8 ≤ A 0 1 → Q (some (.int (Int32.ofInt (-4)))) (lo_M n w3 g σ τ r1 r2))
    (hok : (0 ≤ z ∧ z ≤ 6) ∧ (0 ≤ y ∧ y ≤ 6) ∧ z ≠ y → A 0 1 < 8 → Q (some (.int (Int32.ofInt ((A 0 1 + 1 : Nat) : Int)))) (lo_M n w3 g (fcM σ (A 0 1) (Int32.ofInt 1) (Int32.ofInt z) (Int32.ofInt y)) τ r1 r2)) : am_d (d + 3) 70 [.ref 4, .int (Int32.ofInt z), .int (Int32.ofInt y)] 0 0 (lo_M n w3 g σ τ r1 r2) Q := by
  refine am_goT T_X9_front [.ref 4, .int (Int32.ofInt z), .int (Int32.ofInt y)] rfl rfl (fun _ => false) 60 ?_
  refine s_isNumber d _ _ hz ?_
  by_cases c : 0 ≤ z ∧ z ≤ 6
  · rw [if_pos c]
    refine And.intro (fun q => absurd q (by decide)) (fun _ => ?_)
    refine s_isNumber d _ _ hy ?_
    by_cases cy : 0 ≤ y ∧ y ≤ 6
    · rw [if_pos cy]
      refine And.intro (fun q => absurd q (by decide)) (fun _ => ?_)
      refine And.intro (fun e => ?_) (fun e => ?_)
      · rw [zeq hz hy] at e
        exact hbad (fun q => q.2.2 e)
      · rw [zeq hz hy] at e
        exact s_addFact d _ hx hwf (fun e2 => hfull ⟨c, cy, e⟩ e2) (fun e2 => hok ⟨c, cy, e⟩ e2)
    · rw [if_neg cy]
      exact And.intro (fun _ => hbad (fun q => cy q.2.1)) (fun q => absurd rfl q)
  · rw [if_neg c]
    exact And.intro (fun _ => hbad (fun q => c q.1)) (fun q => absurd rfl q)
/-- a Sunday more -/
def suM (σ : Nat → Nat → Int32) (p : Nat) (y : Int32) : Nat → Nat → Int32 := am_u (am_u (am_u σ 45 p (σ 45 p + Int32.ofInt 1)) 46 p (σ 46 p + y)) 44 2 (σ 44 2 + Int32.ofInt 1)
set_option maxRecDepth 100000 in
theorem c_sunday (d : Nat) (Q : am_Q) {z y : Int} (hz : zr z) (hy : zr y) (hx : IX A B σ) (hwf : WF A B)
    (hbad : ¬ ((0 ≤ z ∧ z ≤ 6) ∧ 0 ≤ y ∧ y ≤ 1) → Q (some (.int (Int32.ofInt (-2)))) (lo_M n w3 g σ τ r1 r2))
    (hfull : (0 ≤ z ∧ z ≤ 6) ∧ 0 ≤ y ∧ y ≤ 1 → 60 ≤ A 0 2 → Q (some (.int (Int32.ofInt (-4)))) (lo_M n w3 g σ τ r1 r2))
    (hok : (0 ≤ z ∧ z ≤ 6) ∧ 0 ≤ y ∧ y ≤ 1 → A 0 2 < 60 → Q (some (.int (Int32.ofInt ((A 8 z.toNat + 1 : Nat) : Int)))) (lo_M n w3 g (suM σ z.toNat (Int32.ofInt y)) τ r1 r2)) : am_d (d + 3) 76 [.ref 4, .int (Int32.ofInt z), .int (Int32.ofInt y)] 0 0 (lo_M n w3 g σ τ r1 r2) Q := by
  obtain ⟨u1, u2⟩ := hx.2.2.2.2.2.2.1
  have u60 := hwf.2.2.2.2.2.2.2.2.2.1
  refine am_goT T_X9_sunday [.ref 4, .int (Int32.ofInt z), .int (Int32.ofInt y)] rfl rfl (fun _ => false) 60 ?_
  refine s_isNumber d _ _ hz ?_
  by_cases c : 0 ≤ z ∧ z ≤ 6
  · rw [if_pos c]
    refine And.intro (fun q => absurd q (by decide)) (fun _ => ?_)
    refine s_withinZ (d + 1) hy (by unfold zr; omega) (by unfold zr; omega) _ _ ?_
    by_cases cy : 0 ≤ y ∧ y ≤ 1
    · rw [if_pos cy]
      refine And.intro (fun q => absurd q (by decide)) (fun _ => ?_)
      refine And.intro (fun c1 => ?_) (fun c1 => ?_)
      · have c1 : σ 44 2 < Int32.ofInt 60 := c1
        rw [u1, zlt (by unfold zr; omega) (by unfold zr; omega)] at c1
        have hok := hok ⟨c, cy⟩ (by omega)
        have e1 : Int32.ofInt ((A 8 z.toNat + 1 : Nat) : Int) = (suM σ z.toNat (Int32.ofInt y)) 45 z.toNat := by
          unfold suM
          rw [am_u_ne (by decide), am_u_ne (by decide), am_u_at, if_pos rfl, (u2 z.toNat (by omega)).1, zadd]
          congr 1
        rw [e1] at hok
        refine am_goT (d := d + 1) (k := 48) T_X8_add [.ref 44, .int (Int32.ofInt z), .int (Int32.ofInt y)] rfl rfl (fun _ => false) 60 ?_
        refine ixi z.toNat 7 (by omega) ?_ (by congr 1; omega)
        refine ixi z.toNat 7 (by omega) ?_ (by congr 1; omega)
        refine ixi z.toNat 7 (by omega) ?_ (by congr 1; omega)
        refine ixi z.toNat 7 (by omega) ?_ (by congr 1; omega)
        refine ixi z.toNat 7 (by omega) ?_ (by congr 1; omega)
        exact hok
      · have c1 : ¬ σ 44 2 < Int32.ofInt 60 := c1
        rw [u1, zlt (by unfold zr; omega) (by unfold zr; omega)] at c1
        exact hfull ⟨c, cy⟩ (by omega)
    · rw [if_neg cy]
      exact And.intro (fun _ => hbad (fun q => cy q.2)) (fun q => absurd rfl q)
  · rw [if_neg c]
    exact And.intro (fun _ => hbad (fun q => c q.1)) (fun q => absurd rfl q)
/-- love of two, both ways -/
def loM (σ : Nat → Nat → Int32) (a b : Nat) (v : Int32) : Nat → Nat → Int32 := am_u (am_u σ (14 + a) b v) (14 + b) a v
set_option maxHeartbeats 4000000 in
set_option maxRecDepth 100000 in
theorem c_love (d : Nat) (Q : am_Q) {z y v : Int} (hz : zr z) (hy : zr y) (hv : zr v) (hx : IX A B σ)
    (hbad : ¬ ((0 ≤ z ∧ z ≤ 6) ∧ (0 ≤ y ∧ y ≤ 6) ∧ z ≠ y ∧ 0 ≤ v ∧ v ≤ 20) → Q (some (.int (Int32.ofInt (-2)))) (lo_M n w3 g σ τ r1 r2))
    (hok : (0 ≤ z ∧ z ≤ 6) ∧ (0 ≤ y ∧ y ≤ 6) ∧ z ≠ y ∧ 0 ≤ v ∧ v ≤ 20 → Q (some (.int (Int32.ofInt (A (20 + z.toNat) y.toNat : Int)))) (lo_M n w3 g (drp (loM σ z.toNat y.toNat (Int32.ofInt v))) τ r1 r2)) : am_d (d + 3) 59 [.ref 4, .int (Int32.ofInt z), .int (Int32.ofInt y), .int (Int32.ofInt v)] 0 0 (lo_M n w3 g σ τ r1 r2) Q := by
  have hL := hx.2.2.2.1
  refine am_goT T_X9_love [.ref 4, .int (Int32.ofInt z), .int (Int32.ofInt y), .int (Int32.ofInt v), .null] rfl rfl (fun _ => false) 60 ?_
  refine s_isNumber d _ _ hz ?_
  by_cases c : 0 ≤ z ∧ z ≤ 6
  · rw [if_pos c]
    refine And.intro (fun q => absurd q (by decide)) (fun _ => ?_)
    refine s_isNumber d _ _ hy ?_
    by_cases cy : 0 ≤ y ∧ y ≤ 6
    · rw [if_pos cy]
      refine And.intro (fun q => absurd q (by decide)) (fun _ => ?_)
      refine And.intro (fun e => ?_) (fun e => ?_)
      · rw [zeq hz hy] at e
        exact hbad (fun q => q.2.2.1 e)
      · rw [zeq hz hy] at e
        refine s_withinZ (d + 1) hv (by unfold zr; omega) (by unfold zr; omega) _ _ ?_
        by_cases cv : 0 ≤ v ∧ v ≤ 20
        · rw [if_pos cv]
          refine And.intro (fun q => absurd q (by decide)) (fun _ => ?_)
          have hok := hok ⟨c, cy, e, cv⟩
          rw [← hL z.toNat (by omega) y.toNat (by omega)] at hok
          obtain ⟨a, ha⟩ : ∃ a : Nat, z = (a : Int) := ⟨z.toNat, by omega⟩
          obtain ⟨b, hb⟩ : ∃ b : Nat, y = (b : Int) := ⟨y.toNat, by omega⟩
          subst ha
          subst hb
          rw [Int.toNat_natCast, Int.toNat_natCast] at hok
          refine ixi a 7 (by omega) ?_
          rcases (show a = 0 ∨ a = 1 ∨ a = 2 ∨ a = 3 ∨ a = 4 ∨ a = 5 ∨ a = 6 by omega) with rfl | rfl | rfl | rfl | rfl | rfl | rfl
          · refine ixi b 7 (by omega) ?_
            refine ixi 0 7 (by omega) ?_
            refine ixi b 7 (by omega) ?_
            refine ixi b 7 (by omega) ?_
            rcases (show b = 0 ∨ b = 1 ∨ b = 2 ∨ b = 3 ∨ b = 4 ∨ b = 5 ∨ b = 6 by omega) with rfl | rfl | rfl | rfl | rfl | rfl | rfl
            all_goals first
              | exact absurd rfl e
              | exact ixi 0 7 (by omega) (s_drop (d + 1) _ hok)
          · refine ixi b 7 (by omega) ?_
            refine ixi 1 7 (by omega) ?_
            refine ixi b 7 (by omega) ?_
            refine ixi b 7 (by omega) ?_
            rcases (show b = 0 ∨ b = 1 ∨ b = 2 ∨ b = 3 ∨ b = 4 ∨ b = 5 ∨ b = 6 by omega) with rfl | rfl | rfl | rfl | rfl | rfl | rfl
            all_goals first
              | exact absurd rfl e
              | exact ixi 1 7 (by omega) (s_drop (d + 1) _ hok)
          · refine ixi b 7 (by omega) ?_
            refine ixi 2 7 (by omega) ?_
            refine ixi b 7 (by omega) ?_
            refine ixi b 7 (by omega) ?_
            rcases (show b = 0 ∨ b = 1 ∨ b = 2 ∨ b = 3 ∨ b = 4 ∨ b = 5 ∨ b = 6 by omega) with rfl | rfl | rfl | rfl | rfl | rfl | rfl
            all_goals first
              | exact absurd rfl e
              | exact ixi 2 7 (by omega) (s_drop (d + 1) _ hok)
          · refine ixi b 7 (by omega) ?_
            refine ixi 3 7 (by omega) ?_
            refine ixi b 7 (by omega) ?_
            refine ixi b 7 (by omega) ?_
            rcases (show b = 0 ∨ b = 1 ∨ b = 2 ∨ b = 3 ∨ b = 4 ∨ b = 5 ∨ b = 6 by omega) with rfl | rfl | rfl | rfl | rfl | rfl | rfl
            all_goals first
              | exact absurd rfl e
              | exact ixi 3 7 (by omega) (s_drop (d + 1) _ hok)
          · refine ixi b 7 (by omega) ?_
            refine ixi 4 7 (by omega) ?_
            refine ixi b 7 (by omega) ?_
            refine ixi b 7 (by omega) ?_
            rcases (show b = 0 ∨ b = 1 ∨ b = 2 ∨ b = 3 ∨ b = 4 ∨ b = 5 ∨ b = 6 by omega) with rfl | rfl | rfl | rfl | rfl | rfl | rfl
            all_goals first
              | exact absurd rfl e
              | exact ixi 4 7 (by omega) (s_drop (d + 1) _ hok)
          · refine ixi b 7 (by omega) ?_
            refine ixi 5 7 (by omega) ?_
            refine ixi b 7 (by omega) ?_
            refine ixi b 7 (by omega) ?_
            rcases (show b = 0 ∨ b = 1 ∨ b = 2 ∨ b = 3 ∨ b = 4 ∨ b = 5 ∨ b = 6 by omega) with rfl | rfl | rfl | rfl | rfl | rfl | rfl
            all_goals first
              | exact absurd rfl e
              | exact ixi 5 7 (by omega) (s_drop (d + 1) _ hok)
          · refine ixi b 7 (by omega) ?_
            refine ixi 6 7 (by omega) ?_
            refine ixi b 7 (by omega) ?_
            refine ixi b 7 (by omega) ?_
            rcases (show b = 0 ∨ b = 1 ∨ b = 2 ∨ b = 3 ∨ b = 4 ∨ b = 5 ∨ b = 6 by omega) with rfl | rfl | rfl | rfl | rfl | rfl | rfl
            all_goals first
              | exact absurd rfl e
              | exact ixi 6 7 (by omega) (s_drop (d + 1) _ hok)
        · rw [if_neg cv]
          exact And.intro (fun _ => hbad (fun q => cv q.2.2.2)) (fun q => absurd rfl q)
    · rw [if_neg cy]
      exact And.intro (fun _ => hbad (fun q => cy q.2.1)) (fun q => absurd rfl q)
  · rw [if_neg c]
    exact And.intro (fun _ => hbad (fun q => c q.1)) (fun q => absurd rfl q)
end MO
end
section
/-! sheets: the class -/
/-- cut to the sheet's form -/
def cutI (f : Int) (x : Int32) : Int32 := if f = 0 then x.toInt8.toInt32 else if f = 1 then x.toInt16.toInt32 else x
def cutZ (f v : Int) : Int := (cutI f (Int32.ofInt v)).toInt
theorem cutZ_eq (f v : Int) : Int32.ofInt (cutZ f v) = cutI f (Int32.ofInt v) := (zof _).symm
theorem cutZ_r (f v : Int) : zr (cutZ f v) := zrof _
/-- what is found at a place of a sheet of form f and size n -/
def fnd (f : Int) (n : Nat) (fm i : Int) : Int := if f = -1 then 1 else if fm ≠ f then 3 else if 0 ≤ i ∧ i < n then 0 else 2
def hld (n : Nat) (i m : Int) : Prop := 0 ≤ i ∧ 0 ≤ m ∧ i ≤ n ∧ m ≤ n - i
section SH
variable {n w3 : Nat} {g : Nat → Nat × Nat} {σ : Nat → Nat → Int32} {τ : Nat → Nat → Int64} {r1 r2 : Nat} {A : aN} {B : aZ}
set_option maxRecDepth 100000 in
theorem s_finding (d : Nat) (Q : am_Q) {k : Int} (h : Q (some (.int (Int32.ofInt (-10 - k)))) (lo_M n w3 g (am_u σ 4 13 (Int32.ofInt k)) τ r1 r2)) : am_d (d + 1) 93 [.ref 4, .int (Int32.ofInt k)] 0 0 (lo_M n w3 g σ τ r1 r2) Q := by
  rw [← zsub] at h
  refine am_goT T_X9_finding [.ref 4, .int (Int32.ofInt k)] rfl rfl (fun _ => false) 30 ?_
  exact h
set_option maxRecDepth 100000 in
theorem s_isSheet (d : Nat) (M : am_M) (Q : am_Q) {v : Int} (hv : zr v) (h : Q (some (.int (if 0 ≤ v ∧ v ≤ 3 then 1 else 0))) M) : am_d (d + 2) 90 [.int (Int32.ofInt v)] 0 0 M Q := by
  refine am_goT T_X9_isSheet [.int (Int32.ofInt v)] rfl rfl (fun _ => false) 30 ?_
  refine s_withinZ d hv (by unfold zr; omega) (by unfold zr; omega) _ _ ?_
  by_cases c : 0 ≤ v ∧ v ≤ 3
  · rw [if_pos c] at h ⊢
    exact And.intro (Or.inr rfl) h
  · rw [if_neg c] at h ⊢
    exact And.intro (Or.inl rfl) h
set_option maxRecDepth 100000 in
theorem s_isForm (d : Nat) (M : am_M) (Q : am_Q) {v : Int} (hv : zr v) (h : Q (some (.int (if 0 ≤ v ∧ v ≤ 2 then 1 else 0))) M) : am_d (d + 2) 91 [.int (Int32.ofInt v)] 0 0 M Q := by
  refine am_goT T_X9_isForm [.int (Int32.ofInt v)] rfl rfl (fun _ => false) 30 ?_
  refine s_withinZ d hv (by unfold zr; omega) (by unfold zr; omega) _ _ ?_
  by_cases c : 0 ≤ v ∧ v ≤ 2
  · rw [if_pos c] at h ⊢
    exact And.intro (Or.inr rfl) h
  · rw [if_neg c] at h ⊢
    exact And.intro (Or.inl rfl) h
set_option maxRecDepth 100000 in
theorem s_isLost0 (d : Nat) (Q : am_Q) {f : Int} (hf : σ 48 1 = Int32.ofInt f) (hr : zr f) (h : Q (some (.int (if f = -1 then 1 else 0))) (lo_M n w3 g σ τ r1 r2)) : am_d (d + 1) 42 [.ref 48] 0 0 (lo_M n w3 g σ τ r1 r2) Q := by
  refine am_goT T_X7_isLost [.ref 48] rfl rfl (fun _ => false) 30 ?_
  refine And.intro (fun c1 => And.intro (Or.inr rfl) ?_) (fun c1 => And.intro (Or.inl rfl) ?_)
  · have c1 : σ 48 1 = Int32.ofInt (-1) := c1
    rw [hf, zeq hr (by unfold zr; omega)] at c1
    rw [if_pos c1] at h
    exact h
  · have c1 : ¬ σ 48 1 = Int32.ofInt (-1) := c1
    rw [hf, zeq hr (by unfold zr; omega)] at c1
    rw [if_neg c1] at h
    exact h
set_option maxRecDepth 100000 in
theorem s_findingAt0 (d : Nat) (Q : am_Q) {f fm i : Int} {N : Nat} (hf : σ 48 1 = Int32.ofInt f) (hr : zr f) (hN : σ 48 2 = Int32.ofInt (N : Int)) (hN2 : N ≤ 60) (hfm : zr fm) (hi : zr i) (h : Q (some (.int (Int32.ofInt (fnd f N fm i)))) (lo_M n w3 g σ τ r1 r2)) : am_d (d + 2) 44 [.ref 48, .int (Int32.ofInt fm), .int (Int32.ofInt i)] 0 0 (lo_M n w3 g σ τ r1 r2) Q := by
  refine am_goT T_X7_findingAt [.ref 48, .int (Int32.ofInt fm), .int (Int32.ofInt i)] rfl rfl (fun _ => false) 30 ?_
  refine s_isLost0 d _ hf hr ?_
  unfold fnd at h
  by_cases c1 : f = -1
  · rw [if_pos c1] at h ⊢
    exact And.intro (fun q => absurd q (by decide)) (fun _ => h)
  · rw [if_neg c1] at h ⊢
    refine And.intro (fun _ => ?_) (fun q => absurd rfl q)
    refine And.intro (fun c2 => ?_) (fun c2 => ?_)
    · have c2 : Int32.ofInt fm = σ 48 1 := c2
      rw [hf, zeq hfm hr] at c2
      rw [if_neg (fun q => q c2)] at h
      show am_d (d + 1) 88 [.int (Int32.ofInt i), .int (Int32.ofInt 0), .int (σ 48 2 - Int32.ofInt 1)] 0 0 _ _
      rw [hN, zsub]
      refine s_withinZ d hi (by unfold zr; omega) (by unfold zr; omega) _ _ ?_
      by_cases c3 : 0 ≤ i ∧ i < N
      · rw [if_pos (by omega)]
        rw [if_pos c3] at h
        exact And.intro (fun q => absurd q (by decide)) (fun _ => h)
      · rw [if_neg (by omega)]
        rw [if_neg c3] at h
        exact And.intro (fun _ => h) (fun q => absurd rfl q)
    · have c2 : ¬ Int32.ofInt fm = σ 48 1 := c2
      rw [hf, zeq hfm hr] at c2
      rw [if_pos c2] at h
      exact h
set_option maxRecDepth 100000 in
theorem s_holds0 (d : Nat) (Q : am_Q) {i m : Int} {N : Nat} (hN : σ 48 2 = Int32.ofInt (N : Int)) (hN2 : N ≤ 60) (hi : zr i) (hm : zr m) (h1 : hld N i m → Q (some (.int 1)) (lo_M n w3 g σ τ r1 r2)) (h0 : ¬ hld N i m → Q (some (.int 0)) (lo_M n w3 g σ τ r1 r2)) : am_d (d + 1) 45 [.ref 48, .int (Int32.ofInt i), .int (Int32.ofInt m)] 0 0 (lo_M n w3 g σ τ r1 r2) Q := by
  refine am_goT T_X7_holds [.ref 48, .int (Int32.ofInt i), .int (Int32.ofInt m)] rfl rfl (fun _ => false) 30 ?_
  refine And.intro (fun c1 => And.intro (Or.inl rfl) (h0 (fun q => ?_))) (fun c1 => And.intro (fun c2 => And.intro (Or.inl rfl) (h0 (fun q => ?_))) (fun c2 => And.intro (fun c3 => And.intro (Or.inl rfl) (h0 (fun q => ?_))) (fun c3 => And.intro (fun c4 => And.intro (Or.inl rfl) (h0 (fun q => ?_))) (fun c4 => And.intro (Or.inr rfl) (h1 ?_)))))
  · rw [zlt0 hi] at c1
    have := q.1
    omega
  · rw [zlt0 hm] at c2
    have := q.2.1
    omega
  · have c3 : σ 48 2 < Int32.ofInt i := c3
    rw [hN, zlt (by unfold zr; omega) hi] at c3
    have := q.2.2.1
    omega
  · rw [zlt0 hi] at c1
    have c3 : ¬ σ 48 2 < Int32.ofInt i := c3
    rw [hN, zlt (by unfold zr; omega) hi] at c3
    have c4 : σ 48 2 - Int32.ofInt i < Int32.ofInt m := c4
    rw [hN, zsub, zlt (by unfold zr; omega) hm] at c4
    have := q.2.2.2
    omega
  · rw [zlt0 hi] at c1
    rw [zlt0 hm] at c2
    have c3 : ¬ σ 48 2 < Int32.ofInt i := c3
    rw [hN, zlt (by unfold zr; omega) hi] at c3
    have c4 : ¬ σ 48 2 - Int32.ofInt i < Int32.ofInt m := c4
    rw [hN, zsub, zlt (by unfold zr; omega) hm] at c4
    unfold hld
    omega
set_option maxRecDepth 100000 in
theorem s_put0 (d : Nat) (Q : am_Q) {f : Int} {i : Nat} {v : Int32} (hf : σ 48 1 = Int32.ofInt f) (hr : zr f) (hi : i < 60) (h : Q none (lo_M n w3 g (am_u σ 49 i (cutI f v)) τ r1 r2)) : am_d (d + 1) 46 [.ref 48, .int (Int32.ofInt (i : Int)), .int v] 0 0 (lo_M n w3 g σ τ r1 r2) Q := by
  refine am_goT T_X7_put [.ref 48, .int (Int32.ofInt (i : Int)), .int v] rfl rfl (fun _ => false) 30 ?_
  refine And.intro (fun c1 => ?_) (fun c1 => And.intro (fun c2 => ?_) (fun c2 => ?_))
  · have c1 : σ 48 1 = 0 := c1
    rw [hf, zeq0 hr] at c1
    refine ixi i 60 hi ?_
    unfold cutI at h
    rw [if_pos c1] at h
    exact h
  · have c1 : ¬ σ 48 1 = 0 := c1
    have c2 : σ 48 1 = Int32.ofInt 1 := c2
    rw [hf, zeq0 hr] at c1
    rw [hf, zeq hr (by unfold zr; omega)] at c2
    refine ixi i 60 hi ?_
    unfold cutI at h
    rw [if_neg c1, if_pos c2] at h
    exact h
  · have c1 : ¬ σ 48 1 = 0 := c1
    have c2 : ¬ σ 48 1 = Int32.ofInt 1 := c2
    rw [hf, zeq0 hr] at c1
    rw [hf, zeq hr (by unfold zr; omega)] at c2
    refine ixi i 60 hi ?_
    unfold cutI at h
    rw [if_neg c1, if_neg c2] at h
    exact h
set_option maxRecDepth 100000 in
theorem s_renew_loop0 (d : Nat) (Q : am_Q) {x1 x2 : Int32} : ∀ (k i : Nat) (σ : Nat → Nat → Int32), i + k = 60 →
    (∀ σ' : Nat → Nat → Int32, (∀ c, c ≠ 49 → σ' c = σ c) → (∀ j, σ' 49 j = if i ≤ j ∧ j < 60 then Int32.ofInt 0 else σ 49 j) → Q none (lo_M n w3 g σ' τ r1 r2)) →
    am_wp (am_d d) T_X7_renew Q (12, [.ref 48, .int x1, .int x2, .int (Int32.ofInt (i : Int))], [], 0, 0) (lo_M n w3 g σ τ r1 r2) := by
  intro k
  induction k with
  | zero =>
    intro i σ hi h
    refine am_wp_go (am_d_cm _) (fun pc => Nat.beq pc 12) 60 ?_
    refine And.intro (fun c1 => ?_) (fun c1 => absurd ?_ c1)
    · exact h σ (fun _ _ => rfl) (fun j => by rw [if_neg (by omega)])
    · rw [zle (by unfold zr; omega) (by unfold zr; omega)]
      omega
  | succ k ih =>
    intro i σ hi h
    refine am_wp_go (am_d_cm _) (fun pc => Nat.beq pc 12) 60 ?_
    refine And.intro (fun c1 => ?_) (fun c1 => ?_)
    · rw [zle (by unfold zr; omega) (by unfold zr; omega)] at c1
      omega
    · refine ixi i 60 (by omega) ?_
      show am_wp _ _ _ (12, [.ref 48, .int x1, .int x2, .int (Int32.ofInt (i : Int) + Int32.ofInt 1)], [], 0, 0) (lo_M n w3 g (am_u σ 49 i (Int32.ofInt 0)) τ r1 r2)
      rw [zadd, show ((i : Int) + 1) = ((i + 1 : Nat) : Int) by omega]
      refine ih (i + 1) _ (by omega) (fun σ' k1 k2 => h σ' (fun c hc => by rw [k1 c hc, am_u_ne hc]) (fun j => ?_))
      rw [k2 j, am_u_at]
      by_cases e : j = i
      · subst e
        rw [if_neg (by omega), if_pos rfl, if_pos (by omega)]
      · by_cases e2 : i + 1 ≤ j ∧ j < 60
        · rw [if_pos e2, if_pos (by omega)]
        · rw [if_neg e2, if_neg e, if_neg (by omega)]
set_option maxRecDepth 100000 in
theorem s_renew0 (d : Nat) (Q : am_Q) {x1 x2 : Int32} (h : ∀ σ' : Nat → Nat → Int32, (∀ c, c ≠ 48 → c ≠ 49 → σ' c = σ c) → σ' 48 1 = x1 → σ' 48 2 = x2 → (∀ j, j < 60 → σ' 49 j = Int32.ofInt 0) → Q none (lo_M n w3 g σ' τ r1 r2)) : am_d (d + 1) 43 [.ref 48, .int x1, .int x2] 0 0 (lo_M n w3 g σ τ r1 r2) Q := by
  refine am_goT T_X7_renew [.ref 48, .int x1, .int x2, .null] rfl rfl (fun pc => Nat.beq pc 12) 30 ?_
  refine s_renew_loop0 d Q 60 0 (am_u (am_u σ 48 1 x1) 48 2 x2) (by omega) (fun σ' k1 k2 => h σ' (fun c e1 e2 => by rw [k1 c e2, am_u_ne e1, am_u_ne e1]) ?_ ?_ (fun j hj => by rw [k2 j, if_pos (by omega)]))
  · rw [k1 48 (by decide)]
    rfl
  · rw [k1 48 (by decide)]
    rfl
set_option maxRecDepth 100000 in
theorem s_isLost1 (d : Nat) (Q : am_Q) {f : Int} (hf : σ 50 1 = Int32.ofInt f) (hr : zr f) (h : Q (some (.int (if f = -1 then 1 else 0))) (lo_M n w3 g σ τ r1 r2)) : am_d (d + 1) 42 [.ref 50] 0 0 (lo_M n w3 g σ τ r1 r2) Q := by
  refine am_goT T_X7_isLost [.ref 50] rfl rfl (fun _ => false) 30 ?_
  refine And.intro (fun c1 => And.intro (Or.inr rfl) ?_) (fun c1 => And.intro (Or.inl rfl) ?_)
  · have c1 : σ 50 1 = Int32.ofInt (-1) := c1
    rw [hf, zeq hr (by unfold zr; omega)] at c1
    rw [if_pos c1] at h
    exact h
  · have c1 : ¬ σ 50 1 = Int32.ofInt (-1) := c1
    rw [hf, zeq hr (by unfold zr; omega)] at c1
    rw [if_neg c1] at h
    exact h
set_option maxRecDepth 100000 in
theorem s_findingAt1 (d : Nat) (Q : am_Q) {f fm i : Int} {N : Nat} (hf : σ 50 1 = Int32.ofInt f) (hr : zr f) (hN : σ 50 2 = Int32.ofInt (N : Int)) (hN2 : N ≤ 60) (hfm : zr fm) (hi : zr i) (h : Q (some (.int (Int32.ofInt (fnd f N fm i)))) (lo_M n w3 g σ τ r1 r2)) : am_d (d + 2) 44 [.ref 50, .int (Int32.ofInt fm), .int (Int32.ofInt i)] 0 0 (lo_M n w3 g σ τ r1 r2) Q := by
  refine am_goT T_X7_findingAt [.ref 50, .int (Int32.ofInt fm), .int (Int32.ofInt i)] rfl rfl (fun _ => false) 30 ?_
  refine s_isLost1 d _ hf hr ?_
  unfold fnd at h
  by_cases c1 : f = -1
  · rw [if_pos c1] at h ⊢
    exact And.intro (fun q => absurd q (by decide)) (fun _ => h)
  · rw [if_neg c1] at h ⊢
    refine And.intro (fun _ => ?_) (fun q => absurd rfl q)
    refine And.intro (fun c2 => ?_) (fun c2 => ?_)
    · have c2 : Int32.ofInt fm = σ 50 1 := c2
      rw [hf, zeq hfm hr] at c2
      rw [if_neg (fun q => q c2)] at h
      show am_d (d + 1) 88 [.int (Int32.ofInt i), .int (Int32.ofInt 0), .int (σ 50 2 - Int32.ofInt 1)] 0 0 _ _
      rw [hN, zsub]
      refine s_withinZ d hi (by unfold zr; omega) (by unfold zr; omega) _ _ ?_
      by_cases c3 : 0 ≤ i ∧ i < N
      · rw [if_pos (by omega)]
        rw [if_pos c3] at h
        exact And.intro (fun q => absurd q (by decide)) (fun _ => h)
      · rw [if_neg (by omega)]
        rw [if_neg c3] at h
        exact And.intro (fun _ => h) (fun q => absurd rfl q)
    · have c2 : ¬ Int32.ofInt fm = σ 50 1 := c2
      rw [hf, zeq hfm hr] at c2
      rw [if_pos c2] at h
      exact h
set_option maxRecDepth 100000 in
theorem s_holds1 (d : Nat) (Q : am_Q) {i m : Int} {N : Nat} (hN : σ 50 2 = Int32.ofInt (N : Int)) (hN2 : N ≤ 60) (hi : zr i) (hm : zr m) (h1 : hld N i m → Q (some (.int 1)) (lo_M n w3 g σ τ r1 r2)) (h0 : ¬ hld N i m → Q (some (.int 0)) (lo_M n w3 g σ τ r1 r2)) : am_d (d + 1) 45 [.ref 50, .int (Int32.ofInt i), .int (Int32.ofInt m)] 0 0 (lo_M n w3 g σ τ r1 r2) Q := by
  refine am_goT T_X7_holds [.ref 50, .int (Int32.ofInt i), .int (Int32.ofInt m)] rfl rfl (fun _ => false) 30 ?_
  refine And.intro (fun c1 => And.intro (Or.inl rfl) (h0 (fun q => ?_))) (fun c1 => And.intro (fun c2 => And.intro (Or.inl rfl) (h0 (fun q => ?_))) (fun c2 => And.intro (fun c3 => And.intro (Or.inl rfl) (h0 (fun q => ?_))) (fun c3 => And.intro (fun c4 => And.intro (Or.inl rfl) (h0 (fun q => ?_))) (fun c4 => And.intro (Or.inr rfl) (h1 ?_)))))
  · rw [zlt0 hi] at c1
    have := q.1
    omega
  · rw [zlt0 hm] at c2
    have := q.2.1
    omega
  · have c3 : σ 50 2 < Int32.ofInt i := c3
    rw [hN, zlt (by unfold zr; omega) hi] at c3
    have := q.2.2.1
    omega
  · rw [zlt0 hi] at c1
    have c3 : ¬ σ 50 2 < Int32.ofInt i := c3
    rw [hN, zlt (by unfold zr; omega) hi] at c3
    have c4 : σ 50 2 - Int32.ofInt i < Int32.ofInt m := c4
    rw [hN, zsub, zlt (by unfold zr; omega) hm] at c4
    have := q.2.2.2
    omega
  · rw [zlt0 hi] at c1
    rw [zlt0 hm] at c2
    have c3 : ¬ σ 50 2 < Int32.ofInt i := c3
    rw [hN, zlt (by unfold zr; omega) hi] at c3
    have c4 : ¬ σ 50 2 - Int32.ofInt i < Int32.ofInt m := c4
    rw [hN, zsub, zlt (by unfold zr; omega) hm] at c4
    unfold hld
    omega
set_option maxRecDepth 100000 in
theorem s_put1 (d : Nat) (Q : am_Q) {f : Int} {i : Nat} {v : Int32} (hf : σ 50 1 = Int32.ofInt f) (hr : zr f) (hi : i < 60) (h : Q none (lo_M n w3 g (am_u σ 51 i (cutI f v)) τ r1 r2)) : am_d (d + 1) 46 [.ref 50, .int (Int32.ofInt (i : Int)), .int v] 0 0 (lo_M n w3 g σ τ r1 r2) Q := by
  refine am_goT T_X7_put [.ref 50, .int (Int32.ofInt (i : Int)), .int v] rfl rfl (fun _ => false) 30 ?_
  refine And.intro (fun c1 => ?_) (fun c1 => And.intro (fun c2 => ?_) (fun c2 => ?_))
  · have c1 : σ 50 1 = 0 := c1
    rw [hf, zeq0 hr] at c1
    refine ixi i 60 hi ?_
    unfold cutI at h
    rw [if_pos c1] at h
    exact h
  · have c1 : ¬ σ 50 1 = 0 := c1
    have c2 : σ 50 1 = Int32.ofInt 1 := c2
    rw [hf, zeq0 hr] at c1
    rw [hf, zeq hr (by unfold zr; omega)] at c2
    refine ixi i 60 hi ?_
    unfold cutI at h
    rw [if_neg c1, if_pos c2] at h
    exact h
  · have c1 : ¬ σ 50 1 = 0 := c1
    have c2 : ¬ σ 50 1 = Int32.ofInt 1 := c2
    rw [hf, zeq0 hr] at c1
    rw [hf, zeq hr (by unfold zr; omega)] at c2
    refine ixi i 60 hi ?_
    unfold cutI at h
    rw [if_neg c1, if_neg c2] at h
    exact h
set_option maxRecDepth 100000 in
theorem s_renew_loop1 (d : Nat) (Q : am_Q) {x1 x2 : Int32} : ∀ (k i : Nat) (σ : Nat → Nat → Int32), i + k = 60 →
    (∀ σ' : Nat → Nat → Int32, (∀ c, c ≠ 51 → σ' c = σ c) → (∀ j, σ' 51 j = if i ≤ j ∧ j < 60 then Int32.ofInt 0 else σ 51 j) → Q none (lo_M n w3 g σ' τ r1 r2)) →
    am_wp (am_d d) T_X7_renew Q (12, [.ref 50, .int x1, .int x2, .int (Int32.ofInt (i : Int))], [], 0, 0) (lo_M n w3 g σ τ r1 r2) := by
  intro k
  induction k with
  | zero =>
    intro i σ hi h
    refine am_wp_go (am_d_cm _) (fun pc => Nat.beq pc 12) 60 ?_
    refine And.intro (fun c1 => ?_) (fun c1 => absurd ?_ c1)
    · exact h σ (fun _ _ => rfl) (fun j => by rw [if_neg (by omega)])
    · rw [zle (by unfold zr; omega) (by unfold zr; omega)]
      omega
  | succ k ih =>
    intro i σ hi h
    refine am_wp_go (am_d_cm _) (fun pc => Nat.beq pc 12) 60 ?_
    refine And.intro (fun c1 => ?_) (fun c1 => ?_)
    · rw [zle (by unfold zr; omega) (by unfold zr; omega)] at c1
      omega
    · refine ixi i 60 (by omega) ?_
      show am_wp _ _ _ (12, [.ref 50, .int x1, .int x2, .int (Int32.ofInt (i : Int) + Int32.ofInt 1)], [], 0, 0) (lo_M n w3 g (am_u σ 51 i (Int32.ofInt 0)) τ r1 r2)
      rw [zadd, show ((i : Int) + 1) = ((i + 1 : Nat) : Int) by omega]
      refine ih (i + 1) _ (by omega) (fun σ' k1 k2 => h σ' (fun c hc => by rw [k1 c hc, am_u_ne hc]) (fun j => ?_))
      rw [k2 j, am_u_at]
      by_cases e : j = i
      · subst e
        rw [if_neg (by omega), if_pos rfl, if_pos (by omega)]
      · by_cases e2 : i + 1 ≤ j ∧ j < 60
        · rw [if_pos e2, if_pos (by omega)]
        · rw [if_neg e2, if_neg e, if_neg (by omega)]
set_option maxRecDepth 100000 in
theorem s_renew1 (d : Nat) (Q : am_Q) {x1 x2 : Int32} (h : ∀ σ' : Nat → Nat → Int32, (∀ c, c ≠ 50 → c ≠ 51 → σ' c = σ c) → σ' 50 1 = x1 → σ' 50 2 = x2 → (∀ j, j < 60 → σ' 51 j = Int32.ofInt 0) → Q none (lo_M n w3 g σ' τ r1 r2)) : am_d (d + 1) 43 [.ref 50, .int x1, .int x2] 0 0 (lo_M n w3 g σ τ r1 r2) Q := by
  refine am_goT T_X7_renew [.ref 50, .int x1, .int x2, .null] rfl rfl (fun pc => Nat.beq pc 12) 30 ?_
  refine s_renew_loop1 d Q 60 0 (am_u (am_u σ 50 1 x1) 50 2 x2) (by omega) (fun σ' k1 k2 => h σ' (fun c e1 e2 => by rw [k1 c e2, am_u_ne e1, am_u_ne e1]) ?_ ?_ (fun j hj => by rw [k2 j, if_pos (by omega)]))
  · rw [k1 50 (by decide)]
    rfl
  · rw [k1 50 (by decide)]
    rfl
set_option maxRecDepth 100000 in
theorem s_isLost2 (d : Nat) (Q : am_Q) {f : Int} (hf : σ 52 1 = Int32.ofInt f) (hr : zr f) (h : Q (some (.int (if f = -1 then 1 else 0))) (lo_M n w3 g σ τ r1 r2)) : am_d (d + 1) 42 [.ref 52] 0 0 (lo_M n w3 g σ τ r1 r2) Q := by
  refine am_goT T_X7_isLost [.ref 52] rfl rfl (fun _ => false) 30 ?_
  refine And.intro (fun c1 => And.intro (Or.inr rfl) ?_) (fun c1 => And.intro (Or.inl rfl) ?_)
  · have c1 : σ 52 1 = Int32.ofInt (-1) := c1
    rw [hf, zeq hr (by unfold zr; omega)] at c1
    rw [if_pos c1] at h
    exact h
  · have c1 : ¬ σ 52 1 = Int32.ofInt (-1) := c1
    rw [hf, zeq hr (by unfold zr; omega)] at c1
    rw [if_neg c1] at h
    exact h
set_option maxRecDepth 100000 in
theorem s_findingAt2 (d : Nat) (Q : am_Q) {f fm i : Int} {N : Nat} (hf : σ 52 1 = Int32.ofInt f) (hr : zr f) (hN : σ 52 2 = Int32.ofInt (N : Int)) (hN2 : N ≤ 60) (hfm : zr fm) (hi : zr i) (h : Q (some (.int (Int32.ofInt (fnd f N fm i)))) (lo_M n w3 g σ τ r1 r2)) : am_d (d + 2) 44 [.ref 52, .int (Int32.ofInt fm), .int (Int32.ofInt i)] 0 0 (lo_M n w3 g σ τ r1 r2) Q := by
  refine am_goT T_X7_findingAt [.ref 52, .int (Int32.ofInt fm), .int (Int32.ofInt i)] rfl rfl (fun _ => false) 30 ?_
  refine s_isLost2 d _ hf hr ?_
  unfold fnd at h
  by_cases c1 : f = -1
  · rw [if_pos c1] at h ⊢
    exact And.intro (fun q => absurd q (by decide)) (fun _ => h)
  · rw [if_neg c1] at h ⊢
    refine And.intro (fun _ => ?_) (fun q => absurd rfl q)
    refine And.intro (fun c2 => ?_) (fun c2 => ?_)
    · have c2 : Int32.ofInt fm = σ 52 1 := c2
      rw [hf, zeq hfm hr] at c2
      rw [if_neg (fun q => q c2)] at h
      show am_d (d + 1) 88 [.int (Int32.ofInt i), .int (Int32.ofInt 0), .int (σ 52 2 - Int32.ofInt 1)] 0 0 _ _
      rw [hN, zsub]
      refine s_withinZ d hi (by unfold zr; omega) (by unfold zr; omega) _ _ ?_
      by_cases c3 : 0 ≤ i ∧ i < N
      · rw [if_pos (by omega)]
        rw [if_pos c3] at h
        exact And.intro (fun q => absurd q (by decide)) (fun _ => h)
      · rw [if_neg (by omega)]
        rw [if_neg c3] at h
        exact And.intro (fun _ => h) (fun q => absurd rfl q)
    · have c2 : ¬ Int32.ofInt fm = σ 52 1 := c2
      rw [hf, zeq hfm hr] at c2
      rw [if_pos c2] at h
      exact h
set_option maxRecDepth 100000 in
theorem s_holds2 (d : Nat) (Q : am_Q) {i m : Int} {N : Nat} (hN : σ 52 2 = Int32.ofInt (N : Int)) (hN2 : N ≤ 60) (hi : zr i) (hm : zr m) (h1 : hld N i m → Q (some (.int 1)) (lo_M n w3 g σ τ r1 r2)) (h0 : ¬ hld N i m → Q (some (.int 0)) (lo_M n w3 g σ τ r1 r2)) : am_d (d + 1) 45 [.ref 52, .int (Int32.ofInt i), .int (Int32.ofInt m)] 0 0 (lo_M n w3 g σ τ r1 r2) Q := by
  refine am_goT T_X7_holds [.ref 52, .int (Int32.ofInt i), .int (Int32.ofInt m)] rfl rfl (fun _ => false) 30 ?_
  refine And.intro (fun c1 => And.intro (Or.inl rfl) (h0 (fun q => ?_))) (fun c1 => And.intro (fun c2 => And.intro (Or.inl rfl) (h0 (fun q => ?_))) (fun c2 => And.intro (fun c3 => And.intro (Or.inl rfl) (h0 (fun q => ?_))) (fun c3 => And.intro (fun c4 => And.intro (Or.inl rfl) (h0 (fun q => ?_))) (fun c4 => And.intro (Or.inr rfl) (h1 ?_)))))
  · rw [zlt0 hi] at c1
    have := q.1
    omega
  · rw [zlt0 hm] at c2
    have := q.2.1
    omega
  · have c3 : σ 52 2 < Int32.ofInt i := c3
    rw [hN, zlt (by unfold zr; omega) hi] at c3
    have := q.2.2.1
    omega
  · rw [zlt0 hi] at c1
    have c3 : ¬ σ 52 2 < Int32.ofInt i := c3
    rw [hN, zlt (by unfold zr; omega) hi] at c3
    have c4 : σ 52 2 - Int32.ofInt i < Int32.ofInt m := c4
    rw [hN, zsub, zlt (by unfold zr; omega) hm] at c4
    have := q.2.2.2
    omega
  · rw [zlt0 hi] at c1
    rw [zlt0 hm] at c2
    have c3 : ¬ σ 52 2 < Int32.ofInt i := c3
    rw [hN, zlt (by unfold zr; omega) hi] at c3
    have c4 : ¬ σ 52 2 - Int32.ofInt i < Int32.ofInt m := c4
    rw [hN, zsub, zlt (by unfold zr; omega) hm] at c4
    unfold hld
    omega
set_option maxRecDepth 100000 in
theorem s_put2 (d : Nat) (Q : am_Q) {f : Int} {i : Nat} {v : Int32} (hf : σ 52 1 = Int32.ofInt f) (hr : zr f) (hi : i < 60) (h : Q none (lo_M n w3 g (am_u σ 53 i (cutI f v)) τ r1 r2)) : am_d (d + 1) 46 [.ref 52, .int (Int32.ofInt (i : Int)), .int v] 0 0 (lo_M n w3 g σ τ r1 r2) Q := by
  refine am_goT T_X7_put [.ref 52, .int (Int32.ofInt (i : Int)), .int v] rfl rfl (fun _ => false) 30 ?_
  refine And.intro (fun c1 => ?_) (fun c1 => And.intro (fun c2 => ?_) (fun c2 => ?_))
  · have c1 : σ 52 1 = 0 := c1
    rw [hf, zeq0 hr] at c1
    refine ixi i 60 hi ?_
    unfold cutI at h
    rw [if_pos c1] at h
    exact h
  · have c1 : ¬ σ 52 1 = 0 := c1
    have c2 : σ 52 1 = Int32.ofInt 1 := c2
    rw [hf, zeq0 hr] at c1
    rw [hf, zeq hr (by unfold zr; omega)] at c2
    refine ixi i 60 hi ?_
    unfold cutI at h
    rw [if_neg c1, if_pos c2] at h
    exact h
  · have c1 : ¬ σ 52 1 = 0 := c1
    have c2 : ¬ σ 52 1 = Int32.ofInt 1 := c2
    rw [hf, zeq0 hr] at c1
    rw [hf, zeq hr (by unfold zr; omega)] at c2
    refine ixi i 60 hi ?_
    unfold cutI at h
    rw [if_neg c1, if_neg c2] at h
    exact h
set_option maxRecDepth 100000 in
theorem s_renew_loop2 (d : Nat) (Q : am_Q) {x1 x2 : Int32} : ∀ (k i : Nat) (σ : Nat → Nat → Int32), i + k = 60 →
    (∀ σ' : Nat → Nat → Int32, (∀ c, c ≠ 53 → σ' c = σ c) → (∀ j, σ' 53 j = if i ≤ j ∧ j < 60 then Int32.ofInt 0 else σ 53 j) → Q none (lo_M n w3 g σ' τ r1 r2)) →
    am_wp (am_d d) T_X7_renew Q (12, [.ref 52, .int x1, .int x2, .int (Int32.ofInt (i : Int))], [], 0, 0) (lo_M n w3 g σ τ r1 r2) := by
  intro k
  induction k with
  | zero =>
    intro i σ hi h
    refine am_wp_go (am_d_cm _) (fun pc => Nat.beq pc 12) 60 ?_
    refine And.intro (fun c1 => ?_) (fun c1 => absurd ?_ c1)
    · exact h σ (fun _ _ => rfl) (fun j => by rw [if_neg (by omega)])
    · rw [zle (by unfold zr; omega) (by unfold zr; omega)]
      omega
  | succ k ih =>
    intro i σ hi h
    refine am_wp_go (am_d_cm _) (fun pc => Nat.beq pc 12) 60 ?_
    refine And.intro (fun c1 => ?_) (fun c1 => ?_)
    · rw [zle (by unfold zr; omega) (by unfold zr; omega)] at c1
      omega
    · refine ixi i 60 (by omega) ?_
      show am_wp _ _ _ (12, [.ref 52, .int x1, .int x2, .int (Int32.ofInt (i : Int) + Int32.ofInt 1)], [], 0, 0) (lo_M n w3 g (am_u σ 53 i (Int32.ofInt 0)) τ r1 r2)
      rw [zadd, show ((i : Int) + 1) = ((i + 1 : Nat) : Int) by omega]
      refine ih (i + 1) _ (by omega) (fun σ' k1 k2 => h σ' (fun c hc => by rw [k1 c hc, am_u_ne hc]) (fun j => ?_))
      rw [k2 j, am_u_at]
      by_cases e : j = i
      · subst e
        rw [if_neg (by omega), if_pos rfl, if_pos (by omega)]
      · by_cases e2 : i + 1 ≤ j ∧ j < 60
        · rw [if_pos e2, if_pos (by omega)]
        · rw [if_neg e2, if_neg e, if_neg (by omega)]
set_option maxRecDepth 100000 in
theorem s_renew2 (d : Nat) (Q : am_Q) {x1 x2 : Int32} (h : ∀ σ' : Nat → Nat → Int32, (∀ c, c ≠ 52 → c ≠ 53 → σ' c = σ c) → σ' 52 1 = x1 → σ' 52 2 = x2 → (∀ j, j < 60 → σ' 53 j = Int32.ofInt 0) → Q none (lo_M n w3 g σ' τ r1 r2)) : am_d (d + 1) 43 [.ref 52, .int x1, .int x2] 0 0 (lo_M n w3 g σ τ r1 r2) Q := by
  refine am_goT T_X7_renew [.ref 52, .int x1, .int x2, .null] rfl rfl (fun pc => Nat.beq pc 12) 30 ?_
  refine s_renew_loop2 d Q 60 0 (am_u (am_u σ 52 1 x1) 52 2 x2) (by omega) (fun σ' k1 k2 => h σ' (fun c e1 e2 => by rw [k1 c e2, am_u_ne e1, am_u_ne e1]) ?_ ?_ (fun j hj => by rw [k2 j, if_pos (by omega)]))
  · rw [k1 52 (by decide)]
    rfl
  · rw [k1 52 (by decide)]
    rfl
set_option maxRecDepth 100000 in
theorem s_isLost3 (d : Nat) (Q : am_Q) {f : Int} (hf : σ 54 1 = Int32.ofInt f) (hr : zr f) (h : Q (some (.int (if f = -1 then 1 else 0))) (lo_M n w3 g σ τ r1 r2)) : am_d (d + 1) 42 [.ref 54] 0 0 (lo_M n w3 g σ τ r1 r2) Q := by
  refine am_goT T_X7_isLost [.ref 54] rfl rfl (fun _ => false) 30 ?_
  refine And.intro (fun c1 => And.intro (Or.inr rfl) ?_) (fun c1 => And.intro (Or.inl rfl) ?_)
  · have c1 : σ 54 1 = Int32.ofInt (-1) := c1
    rw [hf, zeq hr (by unfold zr; omega)] at c1
    rw [if_pos c1] at h
    exact h
  · have c1 : ¬ σ 54 1 = Int32.ofInt (-1) := c1
    rw [hf, zeq hr (by unfold zr; omega)] at c1
    rw [if_neg c1] at h
    exact h
set_option maxRecDepth 100000 in
theorem s_findingAt3 (d : Nat) (Q : am_Q) {f fm i : Int} {N : Nat} (hf : σ 54 1 = Int32.ofInt f) (hr : zr f) (hN : σ 54 2 = Int32.ofInt (N : Int)) (hN2 : N ≤ 60) (hfm : zr fm) (hi : zr i) (h : Q (some (.int (Int32.ofInt (fnd f N fm i)))) (lo_M n w3 g σ τ r1 r2)) : am_d (d + 2) 44 [.ref 54, .int (Int32.ofInt fm), .int (Int32.ofInt i)] 0 0 (lo_M n w3 g σ τ r1 r2) Q := by
  refine am_goT T_X7_findingAt [.ref 54, .int (Int32.ofInt fm), .int (Int32.ofInt i)] rfl rfl (fun _ => false) 30 ?_
  refine s_isLost3 d _ hf hr ?_
  unfold fnd at h
  by_cases c1 : f = -1
  · rw [if_pos c1] at h ⊢
    exact And.intro (fun q => absurd q (by decide)) (fun _ => h)
  · rw [if_neg c1] at h ⊢
    refine And.intro (fun _ => ?_) (fun q => absurd rfl q)
    refine And.intro (fun c2 => ?_) (fun c2 => ?_)
    · have c2 : Int32.ofInt fm = σ 54 1 := c2
      rw [hf, zeq hfm hr] at c2
      rw [if_neg (fun q => q c2)] at h
      show am_d (d + 1) 88 [.int (Int32.ofInt i), .int (Int32.ofInt 0), .int (σ 54 2 - Int32.ofInt 1)] 0 0 _ _
      rw [hN, zsub]
      refine s_withinZ d hi (by unfold zr; omega) (by unfold zr; omega) _ _ ?_
      by_cases c3 : 0 ≤ i ∧ i < N
      · rw [if_pos (by omega)]
        rw [if_pos c3] at h
        exact And.intro (fun q => absurd q (by decide)) (fun _ => h)
      · rw [if_neg (by omega)]
        rw [if_neg c3] at h
        exact And.intro (fun _ => h) (fun q => absurd rfl q)
    · have c2 : ¬ Int32.ofInt fm = σ 54 1 := c2
      rw [hf, zeq hfm hr] at c2
      rw [if_pos c2] at h
      exact h
set_option maxRecDepth 100000 in
theorem s_holds3 (d : Nat) (Q : am_Q) {i m : Int} {N : Nat} (hN : σ 54 2 = Int32.ofInt (N : Int)) (hN2 : N ≤ 60) (hi : zr i) (hm : zr m) (h1 : hld N i m → Q (some (.int 1)) (lo_M n w3 g σ τ r1 r2)) (h0 : ¬ hld N i m → Q (some (.int 0)) (lo_M n w3 g σ τ r1 r2)) : am_d (d + 1) 45 [.ref 54, .int (Int32.ofInt i), .int (Int32.ofInt m)] 0 0 (lo_M n w3 g σ τ r1 r2) Q := by
  refine am_goT T_X7_holds [.ref 54, .int (Int32.ofInt i), .int (Int32.ofInt m)] rfl rfl (fun _ => false) 30 ?_
  refine And.intro (fun c1 => And.intro (Or.inl rfl) (h0 (fun q => ?_))) (fun c1 => And.intro (fun c2 => And.intro (Or.inl rfl) (h0 (fun q => ?_))) (fun c2 => And.intro (fun c3 => And.intro (Or.inl rfl) (h0 (fun q => ?_))) (fun c3 => And.intro (fun c4 => And.intro (Or.inl rfl) (h0 (fun q => ?_))) (fun c4 => And.intro (Or.inr rfl) (h1 ?_)))))
  · rw [zlt0 hi] at c1
    have := q.1
    omega
  · rw [zlt0 hm] at c2
    have := q.2.1
    omega
  · have c3 : σ 54 2 < Int32.ofInt i := c3
    rw [hN, zlt (by unfold zr; omega) hi] at c3
    have := q.2.2.1
    omega
  · rw [zlt0 hi] at c1
    have c3 : ¬ σ 54 2 < Int32.ofInt i := c3
    rw [hN, zlt (by unfold zr; omega) hi] at c3
    have c4 : σ 54 2 - Int32.ofInt i < Int32.ofInt m := c4
    rw [hN, zsub, zlt (by unfold zr; omega) hm] at c4
    have := q.2.2.2
    omega
  · rw [zlt0 hi] at c1
    rw [zlt0 hm] at c2
    have c3 : ¬ σ 54 2 < Int32.ofInt i := c3
    rw [hN, zlt (by unfold zr; omega) hi] at c3
    have c4 : ¬ σ 54 2 - Int32.ofInt i < Int32.ofInt m := c4
    rw [hN, zsub, zlt (by unfold zr; omega) hm] at c4
    unfold hld
    omega
set_option maxRecDepth 100000 in
theorem s_put3 (d : Nat) (Q : am_Q) {f : Int} {i : Nat} {v : Int32} (hf : σ 54 1 = Int32.ofInt f) (hr : zr f) (hi : i < 60) (h : Q none (lo_M n w3 g (am_u σ 55 i (cutI f v)) τ r1 r2)) : am_d (d + 1) 46 [.ref 54, .int (Int32.ofInt (i : Int)), .int v] 0 0 (lo_M n w3 g σ τ r1 r2) Q := by
  refine am_goT T_X7_put [.ref 54, .int (Int32.ofInt (i : Int)), .int v] rfl rfl (fun _ => false) 30 ?_
  refine And.intro (fun c1 => ?_) (fun c1 => And.intro (fun c2 => ?_) (fun c2 => ?_))
  · have c1 : σ 54 1 = 0 := c1
    rw [hf, zeq0 hr] at c1
    refine ixi i 60 hi ?_
    unfold cutI at h
    rw [if_pos c1] at h
    exact h
  · have c1 : ¬ σ 54 1 = 0 := c1
    have c2 : σ 54 1 = Int32.ofInt 1 := c2
    rw [hf, zeq0 hr] at c1
    rw [hf, zeq hr (by unfold zr; omega)] at c2
    refine ixi i 60 hi ?_
    unfold cutI at h
    rw [if_neg c1, if_pos c2] at h
    exact h
  · have c1 : ¬ σ 54 1 = 0 := c1
    have c2 : ¬ σ 54 1 = Int32.ofInt 1 := c2
    rw [hf, zeq0 hr] at c1
    rw [hf, zeq hr (by unfold zr; omega)] at c2
    refine ixi i 60 hi ?_
    unfold cutI at h
    rw [if_neg c1, if_neg c2] at h
    exact h
set_option maxRecDepth 100000 in
theorem s_renew_loop3 (d : Nat) (Q : am_Q) {x1 x2 : Int32} : ∀ (k i : Nat) (σ : Nat → Nat → Int32), i + k = 60 →
    (∀ σ' : Nat → Nat → Int32, (∀ c, c ≠ 55 → σ' c = σ c) → (∀ j, σ' 55 j = if i ≤ j ∧ j < 60 then Int32.ofInt 0 else σ 55 j) → Q none (lo_M n w3 g σ' τ r1 r2)) →
    am_wp (am_d d) T_X7_renew Q (12, [.ref 54, .int x1, .int x2, .int (Int32.ofInt (i : Int))], [], 0, 0) (lo_M n w3 g σ τ r1 r2) := by
  intro k
  induction k with
  | zero =>
    intro i σ hi h
    refine am_wp_go (am_d_cm _) (fun pc => Nat.beq pc 12) 60 ?_
    refine And.intro (fun c1 => ?_) (fun c1 => absurd ?_ c1)
    · exact h σ (fun _ _ => rfl) (fun j => by rw [if_neg (by omega)])
    · rw [zle (by unfold zr; omega) (by unfold zr; omega)]
      omega
  | succ k ih =>
    intro i σ hi h
    refine am_wp_go (am_d_cm _) (fun pc => Nat.beq pc 12) 60 ?_
    refine And.intro (fun c1 => ?_) (fun c1 => ?_)
    · rw [zle (by unfold zr; omega) (by unfold zr; omega)] at c1
      omega
    · refine ixi i 60 (by omega) ?_
      show am_wp _ _ _ (12, [.ref 54, .int x1, .int x2, .int (Int32.ofInt (i : Int) + Int32.ofInt 1)], [], 0, 0) (lo_M n w3 g (am_u σ 55 i (Int32.ofInt 0)) τ r1 r2)
      rw [zadd, show ((i : Int) + 1) = ((i + 1 : Nat) : Int) by omega]
      refine ih (i + 1) _ (by omega) (fun σ' k1 k2 => h σ' (fun c hc => by rw [k1 c hc, am_u_ne hc]) (fun j => ?_))
      rw [k2 j, am_u_at]
      by_cases e : j = i
      · subst e
        rw [if_neg (by omega), if_pos rfl, if_pos (by omega)]
      · by_cases e2 : i + 1 ≤ j ∧ j < 60
        · rw [if_pos e2, if_pos (by omega)]
        · rw [if_neg e2, if_neg e, if_neg (by omega)]
set_option maxRecDepth 100000 in
theorem s_renew3 (d : Nat) (Q : am_Q) {x1 x2 : Int32} (h : ∀ σ' : Nat → Nat → Int32, (∀ c, c ≠ 54 → c ≠ 55 → σ' c = σ c) → σ' 54 1 = x1 → σ' 54 2 = x2 → (∀ j, j < 60 → σ' 55 j = Int32.ofInt 0) → Q none (lo_M n w3 g σ' τ r1 r2)) : am_d (d + 1) 43 [.ref 54, .int x1, .int x2] 0 0 (lo_M n w3 g σ τ r1 r2) Q := by
  refine am_goT T_X7_renew [.ref 54, .int x1, .int x2, .null] rfl rfl (fun pc => Nat.beq pc 12) 30 ?_
  refine s_renew_loop3 d Q 60 0 (am_u (am_u σ 54 1 x1) 54 2 x2) (by omega) (fun σ' k1 k2 => h σ' (fun c e1 e2 => by rw [k1 c e2, am_u_ne e1, am_u_ne e1]) ?_ ?_ (fun j hj => by rw [k2 j, if_pos (by omega)]))
  · rw [k1 54 (by decide)]
    rfl
  · rw [k1 54 (by decide)]
    rfl
end SH
end
section
/-! sheets: the class's public methods -/
/-- how many are read: the first that is no minute ends it -/
def rdk (f : Nat → Int) : Nat → Nat → Nat
  | 0, i => i
  | k + 1, i => if 0 ≤ f i ∧ f i ≤ 59 then rdk f k (i + 1) else i
theorem rdk_rng {f : Nat → Int} : ∀ (k i : Nat), i ≤ rdk f k i ∧ rdk f k i ≤ i + k
  | 0, i => by simp [rdk]
  | k + 1, i => by
    have := rdk_rng (f := f) k (i + 1)
    unfold rdk
    split <;> omega
section SP
variable {n w3 : Nat} {g : Nat → Nat × Nat} {σ : Nat → Nat → Int32} {τ : Nat → Nat → Int64} {r1 r2 : Nat} {A : aN} {B : aZ}
set_option maxRecDepth 100000 in
theorem s_write_loop0 (d : Nat) (Q : am_Q) {x1 : Int32} {f : Int} (hr : zr f) {N : Nat} (hN : N ≤ 7) : ∀ (k i : Nat) (σ : Nat → Nat → Int32), i + k = N → σ 48 1 = Int32.ofInt f →
    (∀ σ' : Nat → Nat → Int32, (∀ c, c ≠ 49 → σ' c = σ c) → (∀ j, σ' 49 j = if i ≤ j ∧ j < N then cutI f (σ 24 j) else σ 49 j) → Q (some (.int (Int32.ofInt (N : Int)))) (lo_M n w3 g σ' τ r1 r2)) →
    am_wp (am_d (d + 1)) T_X9_write Q (52, [.ref 4, .int x1, .ref 48, .int (Int32.ofInt (N : Int)), .int (Int32.ofInt (i : Int))], [], 0, 0) (lo_M n w3 g σ τ r1 r2) := by
  intro k
  induction k with
  | zero =>
    intro i σ hi hf h
    refine am_wp_go (am_d_cm _) (fun pc => Nat.beq pc 52) 60 ?_
    refine And.intro (fun c1 => ?_) (fun c1 => absurd ?_ c1)
    · exact h σ (fun _ _ => rfl) (fun j => by rw [if_neg (by omega)])
    · rw [zle (by unfold zr; omega) (by unfold zr; omega)]
      omega
  | succ k ih =>
    intro i σ hi hf h
    refine am_wp_go (am_d_cm _) (fun pc => Nat.beq pc 52) 60 ?_
    refine And.intro (fun c1 => ?_) (fun c1 => ?_)
    · rw [zle (by unfold zr; omega) (by unfold zr; omega)] at c1
      omega
    · refine ixi i 7 (by omega) ?_
      refine s_put0 d _ (i := i) (v := σ 24 i) hf hr (by omega) ?_
      show am_wp _ _ _ (52, [.ref 4, .int x1, .ref 48, .int (Int32.ofInt (N : Int)), .int (Int32.ofInt (i : Int) + Int32.ofInt 1)], [], 0, 0) (lo_M n w3 g (am_u σ 49 i (cutI f (σ 24 i))) τ r1 r2)
      rw [zadd, show ((i : Int) + 1) = ((i + 1 : Nat) : Int) by omega]
      refine ih (i + 1) _ (by omega) hf (fun σ' k1 k2 => h σ' (fun c hc => by rw [k1 c hc, am_u_ne hc]) (fun j => ?_))
      rw [k2 j, am_u_at, am_u_ne (c' := 24) (by decide)]
      by_cases e : j = i
      · subst e
        rw [if_neg (by omega), if_pos rfl, if_pos (by omega)]
      · by_cases e2 : i + 1 ≤ j ∧ j < N
        · rw [if_pos e2, if_pos (by omega)]
        · rw [if_neg e2, if_neg e, if_neg (by omega)]
set_option maxRecDepth 100000 in
theorem s_read_loop0 (d : Nat) (Q : am_Q) {x1 : Int32} {f : Nat → Int} {N : Nat} (hN : N ≤ 7) (hr : ∀ j, j < N → zr (f j)) : ∀ (k i : Nat) (σ : Nat → Nat → Int32), i + k = N → (∀ j, j < N → σ 49 j = Int32.ofInt (f j)) →
    (∀ σ' : Nat → Nat → Int32, (∀ c, c ≠ 21 → σ' c = σ c) → (∀ j, σ' 21 j = if i ≤ j ∧ j < rdk f k i then Int32.ofInt (f j) else σ 21 j) → Q (some (.int (Int32.ofInt (rdk f k i : Int)))) (lo_M n w3 g (am_u σ' 4 15 (Int32.ofInt 0)) τ r1 r2)) →
    am_wp (am_d (d + 1)) T_X9_read Q (43, [.ref 4, .int x1, .ref 48, .int (Int32.ofInt (N : Int)), .int (Int32.ofInt (i : Int))], [], 0, 0) (lo_M n w3 g σ τ r1 r2) := by
  intro k
  induction k with
  | zero =>
    intro i σ hi hf h
    refine am_wp_go (am_d_cm _) (fun pc => Nat.beq pc 43) 60 ?_
    refine And.intro (fun c1 => ?_) (fun c1 => absurd ?_ c1)
    · exact And.intro (Or.inl rfl) (h σ (fun _ _ => rfl) (fun j => by rw [if_neg (by unfold rdk; omega)]))
    · rw [zle (by unfold zr; omega) (by unfold zr; omega)]
      omega
  | succ k ih =>
    intro i σ hi hf h
    refine am_wp_go (am_d_cm _) (fun pc => Nat.beq pc 43) 60 ?_
    refine And.intro (fun c1 => ?_) (fun c1 => ?_)
    · rw [zle (by unfold zr; omega) (by unfold zr; omega)] at c1
      omega
    · refine ixi i 60 (by omega) ?_
      show am_d (d + 1) 88 [.int (σ 49 i), .int (Int32.ofInt 0), .int (Int32.ofInt 59)] 0 0 _ _
      have hi2 := hr i (by omega)
      rw [hf i (by omega)]
      refine s_withinZ d hi2 (by unfold zr; omega) (by unfold zr; omega) _ _ ?_
      by_cases c2 : 0 ≤ f i ∧ f i ≤ 59
      · rw [if_pos c2]
        have e : rdk f (k + 1) i = rdk f k (i + 1) := by
          show (if _ then _ else _) = _
          rw [if_pos c2]
        rw [e] at h
        have hb := rdk_rng (f := f) k (i + 1)
        refine And.intro (fun q => absurd q (by decide)) (fun _ => ?_)
        refine ixi i 60 (by omega) ?_
        refine ixi i 7 (by omega) ?_
        show am_wp _ _ _ (43, [.ref 4, .int x1, .ref 48, .int (Int32.ofInt (N : Int)), .int (Int32.ofInt (i : Int) + Int32.ofInt 1)], [], 0, 0) (lo_M n w3 g (am_u σ 21 i (σ 49 i)) τ r1 r2)
        rw [zadd, show ((i : Int) + 1) = ((i + 1 : Nat) : Int) by omega]
        refine ih (i + 1) _ (by omega) hf (fun σ' k1 k2 => h σ' (fun c hc => by rw [k1 c hc, am_u_ne hc]) (fun j => ?_))
        rw [k2 j, am_u_at]
        by_cases e1 : j = i
        · subst e1
          rw [if_neg (by omega), if_pos rfl, if_pos (by omega), hf j (by omega)]
        · by_cases e2 : i + 1 ≤ j ∧ j < rdk f k (i + 1)
          · rw [if_pos e2, if_pos (by omega)]
          · rw [if_neg e2, if_neg e1, if_neg (by omega)]
      · rw [if_neg c2]
        have e : rdk f (k + 1) i = i := by
          show (if _ then _ else _) = _
          rw [if_neg c2]
        rw [e] at h
        refine And.intro (fun _ => ?_) (fun q => absurd rfl q)
        exact And.intro (Or.inl rfl) (h σ (fun _ _ => rfl) (fun j => by rw [if_neg (by omega)]))
set_option maxRecDepth 100000 in
theorem s_write_loop1 (d : Nat) (Q : am_Q) {x1 : Int32} {f : Int} (hr : zr f) {N : Nat} (hN : N ≤ 7) : ∀ (k i : Nat) (σ : Nat → Nat → Int32), i + k = N → σ 50 1 = Int32.ofInt f →
    (∀ σ' : Nat → Nat → Int32, (∀ c, c ≠ 51 → σ' c = σ c) → (∀ j, σ' 51 j = if i ≤ j ∧ j < N then cutI f (σ 24 j) else σ 51 j) → Q (some (.int (Int32.ofInt (N : Int)))) (lo_M n w3 g σ' τ r1 r2)) →
    am_wp (am_d (d + 1)) T_X9_write Q (52, [.ref 4, .int x1, .ref 50, .int (Int32.ofInt (N : Int)), .int (Int32.ofInt (i : Int))], [], 0, 0) (lo_M n w3 g σ τ r1 r2) := by
  intro k
  induction k with
  | zero =>
    intro i σ hi hf h
    refine am_wp_go (am_d_cm _) (fun pc => Nat.beq pc 52) 60 ?_
    refine And.intro (fun c1 => ?_) (fun c1 => absurd ?_ c1)
    · exact h σ (fun _ _ => rfl) (fun j => by rw [if_neg (by omega)])
    · rw [zle (by unfold zr; omega) (by unfold zr; omega)]
      omega
  | succ k ih =>
    intro i σ hi hf h
    refine am_wp_go (am_d_cm _) (fun pc => Nat.beq pc 52) 60 ?_
    refine And.intro (fun c1 => ?_) (fun c1 => ?_)
    · rw [zle (by unfold zr; omega) (by unfold zr; omega)] at c1
      omega
    · refine ixi i 7 (by omega) ?_
      refine s_put1 d _ (i := i) (v := σ 24 i) hf hr (by omega) ?_
      show am_wp _ _ _ (52, [.ref 4, .int x1, .ref 50, .int (Int32.ofInt (N : Int)), .int (Int32.ofInt (i : Int) + Int32.ofInt 1)], [], 0, 0) (lo_M n w3 g (am_u σ 51 i (cutI f (σ 24 i))) τ r1 r2)
      rw [zadd, show ((i : Int) + 1) = ((i + 1 : Nat) : Int) by omega]
      refine ih (i + 1) _ (by omega) hf (fun σ' k1 k2 => h σ' (fun c hc => by rw [k1 c hc, am_u_ne hc]) (fun j => ?_))
      rw [k2 j, am_u_at, am_u_ne (c' := 24) (by decide)]
      by_cases e : j = i
      · subst e
        rw [if_neg (by omega), if_pos rfl, if_pos (by omega)]
      · by_cases e2 : i + 1 ≤ j ∧ j < N
        · rw [if_pos e2, if_pos (by omega)]
        · rw [if_neg e2, if_neg e, if_neg (by omega)]
set_option maxRecDepth 100000 in
theorem s_read_loop1 (d : Nat) (Q : am_Q) {x1 : Int32} {f : Nat → Int} {N : Nat} (hN : N ≤ 7) (hr : ∀ j, j < N → zr (f j)) : ∀ (k i : Nat) (σ : Nat → Nat → Int32), i + k = N → (∀ j, j < N → σ 51 j = Int32.ofInt (f j)) →
    (∀ σ' : Nat → Nat → Int32, (∀ c, c ≠ 21 → σ' c = σ c) → (∀ j, σ' 21 j = if i ≤ j ∧ j < rdk f k i then Int32.ofInt (f j) else σ 21 j) → Q (some (.int (Int32.ofInt (rdk f k i : Int)))) (lo_M n w3 g (am_u σ' 4 15 (Int32.ofInt 0)) τ r1 r2)) →
    am_wp (am_d (d + 1)) T_X9_read Q (43, [.ref 4, .int x1, .ref 50, .int (Int32.ofInt (N : Int)), .int (Int32.ofInt (i : Int))], [], 0, 0) (lo_M n w3 g σ τ r1 r2) := by
  intro k
  induction k with
  | zero =>
    intro i σ hi hf h
    refine am_wp_go (am_d_cm _) (fun pc => Nat.beq pc 43) 60 ?_
    refine And.intro (fun c1 => ?_) (fun c1 => absurd ?_ c1)
    · exact And.intro (Or.inl rfl) (h σ (fun _ _ => rfl) (fun j => by rw [if_neg (by unfold rdk; omega)]))
    · rw [zle (by unfold zr; omega) (by unfold zr; omega)]
      omega
  | succ k ih =>
    intro i σ hi hf h
    refine am_wp_go (am_d_cm _) (fun pc => Nat.beq pc 43) 60 ?_
    refine And.intro (fun c1 => ?_) (fun c1 => ?_)
    · rw [zle (by unfold zr; omega) (by unfold zr; omega)] at c1
      omega
    · refine ixi i 60 (by omega) ?_
      show am_d (d + 1) 88 [.int (σ 51 i), .int (Int32.ofInt 0), .int (Int32.ofInt 59)] 0 0 _ _
      have hi2 := hr i (by omega)
      rw [hf i (by omega)]
      refine s_withinZ d hi2 (by unfold zr; omega) (by unfold zr; omega) _ _ ?_
      by_cases c2 : 0 ≤ f i ∧ f i ≤ 59
      · rw [if_pos c2]
        have e : rdk f (k + 1) i = rdk f k (i + 1) := by
          show (if _ then _ else _) = _
          rw [if_pos c2]
        rw [e] at h
        have hb := rdk_rng (f := f) k (i + 1)
        refine And.intro (fun q => absurd q (by decide)) (fun _ => ?_)
        refine ixi i 60 (by omega) ?_
        refine ixi i 7 (by omega) ?_
        show am_wp _ _ _ (43, [.ref 4, .int x1, .ref 50, .int (Int32.ofInt (N : Int)), .int (Int32.ofInt (i : Int) + Int32.ofInt 1)], [], 0, 0) (lo_M n w3 g (am_u σ 21 i (σ 51 i)) τ r1 r2)
        rw [zadd, show ((i : Int) + 1) = ((i + 1 : Nat) : Int) by omega]
        refine ih (i + 1) _ (by omega) hf (fun σ' k1 k2 => h σ' (fun c hc => by rw [k1 c hc, am_u_ne hc]) (fun j => ?_))
        rw [k2 j, am_u_at]
        by_cases e1 : j = i
        · subst e1
          rw [if_neg (by omega), if_pos rfl, if_pos (by omega), hf j (by omega)]
        · by_cases e2 : i + 1 ≤ j ∧ j < rdk f k (i + 1)
          · rw [if_pos e2, if_pos (by omega)]
          · rw [if_neg e2, if_neg e1, if_neg (by omega)]
      · rw [if_neg c2]
        have e : rdk f (k + 1) i = i := by
          show (if _ then _ else _) = _
          rw [if_neg c2]
        rw [e] at h
        refine And.intro (fun _ => ?_) (fun q => absurd rfl q)
        exact And.intro (Or.inl rfl) (h σ (fun _ _ => rfl) (fun j => by rw [if_neg (by omega)]))
set_option maxRecDepth 100000 in
theorem s_write_loop2 (d : Nat) (Q : am_Q) {x1 : Int32} {f : Int} (hr : zr f) {N : Nat} (hN : N ≤ 7) : ∀ (k i : Nat) (σ : Nat → Nat → Int32), i + k = N → σ 52 1 = Int32.ofInt f →
    (∀ σ' : Nat → Nat → Int32, (∀ c, c ≠ 53 → σ' c = σ c) → (∀ j, σ' 53 j = if i ≤ j ∧ j < N then cutI f (σ 24 j) else σ 53 j) → Q (some (.int (Int32.ofInt (N : Int)))) (lo_M n w3 g σ' τ r1 r2)) →
    am_wp (am_d (d + 1)) T_X9_write Q (52, [.ref 4, .int x1, .ref 52, .int (Int32.ofInt (N : Int)), .int (Int32.ofInt (i : Int))], [], 0, 0) (lo_M n w3 g σ τ r1 r2) := by
  intro k
  induction k with
  | zero =>
    intro i σ hi hf h
    refine am_wp_go (am_d_cm _) (fun pc => Nat.beq pc 52) 60 ?_
    refine And.intro (fun c1 => ?_) (fun c1 => absurd ?_ c1)
    · exact h σ (fun _ _ => rfl) (fun j => by rw [if_neg (by omega)])
    · rw [zle (by unfold zr; omega) (by unfold zr; omega)]
      omega
  | succ k ih =>
    intro i σ hi hf h
    refine am_wp_go (am_d_cm _) (fun pc => Nat.beq pc 52) 60 ?_
    refine And.intro (fun c1 => ?_) (fun c1 => ?_)
    · rw [zle (by unfold zr; omega) (by unfold zr; omega)] at c1
      omega
    · refine ixi i 7 (by omega) ?_
      refine s_put2 d _ (i := i) (v := σ 24 i) hf hr (by omega) ?_
      show am_wp _ _ _ (52, [.ref 4, .int x1, .ref 52, .int (Int32.ofInt (N : Int)), .int (Int32.ofInt (i : Int) + Int32.ofInt 1)], [], 0, 0) (lo_M n w3 g (am_u σ 53 i (cutI f (σ 24 i))) τ r1 r2)
      rw [zadd, show ((i : Int) + 1) = ((i + 1 : Nat) : Int) by omega]
      refine ih (i + 1) _ (by omega) hf (fun σ' k1 k2 => h σ' (fun c hc => by rw [k1 c hc, am_u_ne hc]) (fun j => ?_))
      rw [k2 j, am_u_at, am_u_ne (c' := 24) (by decide)]
      by_cases e : j = i
      · subst e
        rw [if_neg (by omega), if_pos rfl, if_pos (by omega)]
      · by_cases e2 : i + 1 ≤ j ∧ j < N
        · rw [if_pos e2, if_pos (by omega)]
        · rw [if_neg e2, if_neg e, if_neg (by omega)]
set_option maxRecDepth 100000 in
theorem s_read_loop2 (d : Nat) (Q : am_Q) {x1 : Int32} {f : Nat → Int} {N : Nat} (hN : N ≤ 7) (hr : ∀ j, j < N → zr (f j)) : ∀ (k i : Nat) (σ : Nat → Nat → Int32), i + k = N → (∀ j, j < N → σ 53 j = Int32.ofInt (f j)) →
    (∀ σ' : Nat → Nat → Int32, (∀ c, c ≠ 21 → σ' c = σ c) → (∀ j, σ' 21 j = if i ≤ j ∧ j < rdk f k i then Int32.ofInt (f j) else σ 21 j) → Q (some (.int (Int32.ofInt (rdk f k i : Int)))) (lo_M n w3 g (am_u σ' 4 15 (Int32.ofInt 0)) τ r1 r2)) →
    am_wp (am_d (d + 1)) T_X9_read Q (43, [.ref 4, .int x1, .ref 52, .int (Int32.ofInt (N : Int)), .int (Int32.ofInt (i : Int))], [], 0, 0) (lo_M n w3 g σ τ r1 r2) := by
  intro k
  induction k with
  | zero =>
    intro i σ hi hf h
    refine am_wp_go (am_d_cm _) (fun pc => Nat.beq pc 43) 60 ?_
    refine And.intro (fun c1 => ?_) (fun c1 => absurd ?_ c1)
    · exact And.intro (Or.inl rfl) (h σ (fun _ _ => rfl) (fun j => by rw [if_neg (by unfold rdk; omega)]))
    · rw [zle (by unfold zr; omega) (by unfold zr; omega)]
      omega
  | succ k ih =>
    intro i σ hi hf h
    refine am_wp_go (am_d_cm _) (fun pc => Nat.beq pc 43) 60 ?_
    refine And.intro (fun c1 => ?_) (fun c1 => ?_)
    · rw [zle (by unfold zr; omega) (by unfold zr; omega)] at c1
      omega
    · refine ixi i 60 (by omega) ?_
      show am_d (d + 1) 88 [.int (σ 53 i), .int (Int32.ofInt 0), .int (Int32.ofInt 59)] 0 0 _ _
      have hi2 := hr i (by omega)
      rw [hf i (by omega)]
      refine s_withinZ d hi2 (by unfold zr; omega) (by unfold zr; omega) _ _ ?_
      by_cases c2 : 0 ≤ f i ∧ f i ≤ 59
      · rw [if_pos c2]
        have e : rdk f (k + 1) i = rdk f k (i + 1) := by
          show (if _ then _ else _) = _
          rw [if_pos c2]
        rw [e] at h
        have hb := rdk_rng (f := f) k (i + 1)
        refine And.intro (fun q => absurd q (by decide)) (fun _ => ?_)
        refine ixi i 60 (by omega) ?_
        refine ixi i 7 (by omega) ?_
        show am_wp _ _ _ (43, [.ref 4, .int x1, .ref 52, .int (Int32.ofInt (N : Int)), .int (Int32.ofInt (i : Int) + Int32.ofInt 1)], [], 0, 0) (lo_M n w3 g (am_u σ 21 i (σ 53 i)) τ r1 r2)
        rw [zadd, show ((i : Int) + 1) = ((i + 1 : Nat) : Int) by omega]
        refine ih (i + 1) _ (by omega) hf (fun σ' k1 k2 => h σ' (fun c hc => by rw [k1 c hc, am_u_ne hc]) (fun j => ?_))
        rw [k2 j, am_u_at]
        by_cases e1 : j = i
        · subst e1
          rw [if_neg (by omega), if_pos rfl, if_pos (by omega), hf j (by omega)]
        · by_cases e2 : i + 1 ≤ j ∧ j < rdk f k (i + 1)
          · rw [if_pos e2, if_pos (by omega)]
          · rw [if_neg e2, if_neg e1, if_neg (by omega)]
      · rw [if_neg c2]
        have e : rdk f (k + 1) i = i := by
          show (if _ then _ else _) = _
          rw [if_neg c2]
        rw [e] at h
        refine And.intro (fun _ => ?_) (fun q => absurd rfl q)
        exact And.intro (Or.inl rfl) (h σ (fun _ _ => rfl) (fun j => by rw [if_neg (by omega)]))
set_option maxRecDepth 100000 in
theorem s_write_loop3 (d : Nat) (Q : am_Q) {x1 : Int32} {f : Int} (hr : zr f) {N : Nat} (hN : N ≤ 7) : ∀ (k i : Nat) (σ : Nat → Nat → Int32), i + k = N → σ 54 1 = Int32.ofInt f →
    (∀ σ' : Nat → Nat → Int32, (∀ c, c ≠ 55 → σ' c = σ c) → (∀ j, σ' 55 j = if i ≤ j ∧ j < N then cutI f (σ 24 j) else σ 55 j) → Q (some (.int (Int32.ofInt (N : Int)))) (lo_M n w3 g σ' τ r1 r2)) →
    am_wp (am_d (d + 1)) T_X9_write Q (52, [.ref 4, .int x1, .ref 54, .int (Int32.ofInt (N : Int)), .int (Int32.ofInt (i : Int))], [], 0, 0) (lo_M n w3 g σ τ r1 r2) := by
  intro k
  induction k with
  | zero =>
    intro i σ hi hf h
    refine am_wp_go (am_d_cm _) (fun pc => Nat.beq pc 52) 60 ?_
    refine And.intro (fun c1 => ?_) (fun c1 => absurd ?_ c1)
    · exact h σ (fun _ _ => rfl) (fun j => by rw [if_neg (by omega)])
    · rw [zle (by unfold zr; omega) (by unfold zr; omega)]
      omega
  | succ k ih =>
    intro i σ hi hf h
    refine am_wp_go (am_d_cm _) (fun pc => Nat.beq pc 52) 60 ?_
    refine And.intro (fun c1 => ?_) (fun c1 => ?_)
    · rw [zle (by unfold zr; omega) (by unfold zr; omega)] at c1
      omega
    · refine ixi i 7 (by omega) ?_
      refine s_put3 d _ (i := i) (v := σ 24 i) hf hr (by omega) ?_
      show am_wp _ _ _ (52, [.ref 4, .int x1, .ref 54, .int (Int32.ofInt (N : Int)), .int (Int32.ofInt (i : Int) + Int32.ofInt 1)], [], 0, 0) (lo_M n w3 g (am_u σ 55 i (cutI f (σ 24 i))) τ r1 r2)
      rw [zadd, show ((i : Int) + 1) = ((i + 1 : Nat) : Int) by omega]
      refine ih (i + 1) _ (by omega) hf (fun σ' k1 k2 => h σ' (fun c hc => by rw [k1 c hc, am_u_ne hc]) (fun j => ?_))
      rw [k2 j, am_u_at, am_u_ne (c' := 24) (by decide)]
      by_cases e : j = i
      · subst e
        rw [if_neg (by omega), if_pos rfl, if_pos (by omega)]
      · by_cases e2 : i + 1 ≤ j ∧ j < N
        · rw [if_pos e2, if_pos (by omega)]
        · rw [if_neg e2, if_neg e, if_neg (by omega)]
set_option maxRecDepth 100000 in
theorem s_read_loop3 (d : Nat) (Q : am_Q) {x1 : Int32} {f : Nat → Int} {N : Nat} (hN : N ≤ 7) (hr : ∀ j, j < N → zr (f j)) : ∀ (k i : Nat) (σ : Nat → Nat → Int32), i + k = N → (∀ j, j < N → σ 55 j = Int32.ofInt (f j)) →
    (∀ σ' : Nat → Nat → Int32, (∀ c, c ≠ 21 → σ' c = σ c) → (∀ j, σ' 21 j = if i ≤ j ∧ j < rdk f k i then Int32.ofInt (f j) else σ 21 j) → Q (some (.int (Int32.ofInt (rdk f k i : Int)))) (lo_M n w3 g (am_u σ' 4 15 (Int32.ofInt 0)) τ r1 r2)) →
    am_wp (am_d (d + 1)) T_X9_read Q (43, [.ref 4, .int x1, .ref 54, .int (Int32.ofInt (N : Int)), .int (Int32.ofInt (i : Int))], [], 0, 0) (lo_M n w3 g σ τ r1 r2) := by
  intro k
  induction k with
  | zero =>
    intro i σ hi hf h
    refine am_wp_go (am_d_cm _) (fun pc => Nat.beq pc 43) 60 ?_
    refine And.intro (fun c1 => ?_) (fun c1 => absurd ?_ c1)
    · exact And.intro (Or.inl rfl) (h σ (fun _ _ => rfl) (fun j => by rw [if_neg (by unfold rdk; omega)]))
    · rw [zle (by unfold zr; omega) (by unfold zr; omega)]
      omega
  | succ k ih =>
    intro i σ hi hf h
    refine am_wp_go (am_d_cm _) (fun pc => Nat.beq pc 43) 60 ?_
    refine And.intro (fun c1 => ?_) (fun c1 => ?_)
    · rw [zle (by unfold zr; omega) (by unfold zr; omega)] at c1
      omega
    · refine ixi i 60 (by omega) ?_
      show am_d (d + 1) 88 [.int (σ 55 i), .int (Int32.ofInt 0), .int (Int32.ofInt 59)] 0 0 _ _
      have hi2 := hr i (by omega)
      rw [hf i (by omega)]
      refine s_withinZ d hi2 (by unfold zr; omega) (by unfold zr; omega) _ _ ?_
      by_cases c2 : 0 ≤ f i ∧ f i ≤ 59
      · rw [if_pos c2]
        have e : rdk f (k + 1) i = rdk f k (i + 1) := by
          show (if _ then _ else _) = _
          rw [if_pos c2]
        rw [e] at h
        have hb := rdk_rng (f := f) k (i + 1)
        refine And.intro (fun q => absurd q (by decide)) (fun _ => ?_)
        refine ixi i 60 (by omega) ?_
        refine ixi i 7 (by omega) ?_
        show am_wp _ _ _ (43, [.ref 4, .int x1, .ref 54, .int (Int32.ofInt (N : Int)), .int (Int32.ofInt (i : Int) + Int32.ofInt 1)], [], 0, 0) (lo_M n w3 g (am_u σ 21 i (σ 55 i)) τ r1 r2)
        rw [zadd, show ((i : Int) + 1) = ((i + 1 : Nat) : Int) by omega]
        refine ih (i + 1) _ (by omega) hf (fun σ' k1 k2 => h σ' (fun c hc => by rw [k1 c hc, am_u_ne hc]) (fun j => ?_))
        rw [k2 j, am_u_at]
        by_cases e1 : j = i
        · subst e1
          rw [if_neg (by omega), if_pos rfl, if_pos (by omega), hf j (by omega)]
        · by_cases e2 : i + 1 ≤ j ∧ j < rdk f k (i + 1)
          · rw [if_pos e2, if_pos (by omega)]
          · rw [if_neg e2, if_neg e1, if_neg (by omega)]
      · rw [if_neg c2]
        have e : rdk f (k + 1) i = i := by
          show (if _ then _ else _) = _
          rw [if_neg c2]
        rw [e] at h
        refine And.intro (fun _ => ?_) (fun q => absurd rfl q)
        exact And.intro (Or.inl rfl) (h σ (fun _ _ => rfl) (fun j => by rw [if_neg (by omega)]))
theorem fnd_rng (f : Int) (n : Nat) (fm i : Int) : 0 ≤ fnd f n fm i ∧ fnd f n fm i ≤ 3 := by
  unfold fnd
  split
  · omega
  · split
    · omega
    · split <;> omega
theorem fnd_in {f : Int} {n : Nat} {fm i : Int} (h : fnd f n fm i = 0) : 0 ≤ i ∧ i < n := by
  unfold fnd at h
  split at h
  · omega
  · split at h
    · omega
    · split at h
      · next q => exact q
      · omega
set_option maxRecDepth 100000 in
theorem c_sheet (d : Nat) (Q : am_Q) {z f m : Int} (hz : zr z) (hf : zr f) (hm : zr m)
    (hbad : ¬ ((0 ≤ z ∧ z ≤ 3) ∧ (0 ≤ f ∧ f ≤ 2) ∧ m ≤ 60) → Q (some (.int (Int32.ofInt (-2)))) (lo_M n w3 g σ τ r1 r2))
    (hneg : (0 ≤ z ∧ z ≤ 3) ∧ (0 ≤ f ∧ f ≤ 2) ∧ m ≤ 60 → m < 0 → Q (some (.int (Int32.ofInt (-15)))) (lo_M n w3 g (am_u σ 4 13 (Int32.ofInt 5)) τ r1 r2))
    (hok : ∀ s : Nat, z = (s : Int) → s < 4 → (0 ≤ f ∧ f ≤ 2) ∧ m ≤ 60 → 0 ≤ m → ∀ σ' : Nat → Nat → Int32, (∀ c, c ≠ 48 + 2 * s → c ≠ 49 + 2 * s → σ' c = σ c) → σ' (48 + 2 * s) 1 = Int32.ofInt f → σ' (48 + 2 * s) 2 = Int32.ofInt m → (∀ j, j < 60 → σ' (49 + 2 * s) j = Int32.ofInt 0) → Q (some (.int (Int32.ofInt m))) (lo_M n w3 g σ' τ r1 r2)) :
    am_d (d + 3) 79 [.ref 4, .int (Int32.ofInt z), .int (Int32.ofInt f), .int (Int32.ofInt m)] 0 0 (lo_M n w3 g σ τ r1 r2) Q := by
  refine am_goT T_X9_sheet [.ref 4, .int (Int32.ofInt z), .int (Int32.ofInt f), .int (Int32.ofInt m)] rfl rfl (fun _ => false) 60 ?_
  refine s_isSheet d _ _ hz ?_
  by_cases c : 0 ≤ z ∧ z ≤ 3
  · rw [if_pos c]
    refine And.intro (fun q => absurd q (by decide)) (fun _ => ?_)
    refine s_isForm d _ _ hf ?_
    by_cases cf : 0 ≤ f ∧ f ≤ 2
    · rw [if_pos cf]
      refine And.intro (fun q => absurd q (by decide)) (fun _ => ?_)
      refine And.intro (fun c1 => ?_) (fun c1 => ?_)
      · rw [zle hm (by unfold zr; omega)] at c1
        refine And.intro (fun c2 => ?_) (fun c2 => ?_)
        · rw [z0le hm] at c2
          rcases (show z = 0 ∨ z = 1 ∨ z = 2 ∨ z = 3 by omega) with rfl | rfl | rfl | rfl
          · refine ixi 0 4 (by omega) ?_
            exact s_renew0 (d + 1) _ (fun σ' k1 k2 k3 k4 => hok 0 rfl (by omega) ⟨cf, c1⟩ c2 σ' k1 k2 k3 k4)
          · refine ixi 1 4 (by omega) ?_
            exact s_renew1 (d + 1) _ (fun σ' k1 k2 k3 k4 => hok 1 rfl (by omega) ⟨cf, c1⟩ c2 σ' k1 k2 k3 k4)
          · refine ixi 2 4 (by omega) ?_
            exact s_renew2 (d + 1) _ (fun σ' k1 k2 k3 k4 => hok 2 rfl (by omega) ⟨cf, c1⟩ c2 σ' k1 k2 k3 k4)
          · refine ixi 3 4 (by omega) ?_
            exact s_renew3 (d + 1) _ (fun σ' k1 k2 k3 k4 => hok 3 rfl (by omega) ⟨cf, c1⟩ c2 σ' k1 k2 k3 k4)
        · rw [z0le hm] at c2
          exact s_finding (d + 1) _ (hneg ⟨c, cf, c1⟩ (by omega))
      · rw [zle hm (by unfold zr; omega)] at c1
        exact hbad (fun q => c1 q.2.2)
    · rw [if_neg cf]
      exact And.intro (fun _ => hbad (fun q => cf q.2.1)) (fun q => absurd rfl q)
  · rw [if_neg c]
    exact And.intro (fun _ => hbad (fun q => c q.1)) (fun q => absurd rfl q)
set_option maxRecDepth 100000 in
theorem c_lose (d : Nat) (Q : am_Q) {z : Int} (hz : zr z) (hx : IX A B σ) (hwf : WF A B)
    (hbad : ¬ (0 ≤ z ∧ z ≤ 3) → Q (some (.int (Int32.ofInt (-2)))) (lo_M n w3 g σ τ r1 r2))
    (hlost : ∀ s : Nat, z = (s : Int) → s < 4 → B 0 s = -1 → Q (some (.int (Int32.ofInt (-11)))) (lo_M n w3 g (am_u σ 4 13 (Int32.ofInt 1)) τ r1 r2))
    (hok : ∀ s : Nat, z = (s : Int) → s < 4 → B 0 s ≠ -1 → Q (some (.int (Int32.ofInt (A 11 s : Int)))) (lo_M n w3 g (am_u σ (48 + 2 * s) 1 (Int32.ofInt (-1))) τ r1 r2)) :
    am_d (d + 3) 80 [.ref 4, .int (Int32.ofInt z)] 0 0 (lo_M n w3 g σ τ r1 r2) Q := by
  have hH := hx.2.2.2.2.2.2.2.1
  have hB := hwf.2.2.2.2.2.2.2.2.2.2.2.2.2.1
  refine am_goT T_X9_lose [.ref 4, .int (Int32.ofInt z), .null] rfl rfl (fun _ => false) 60 ?_
  refine s_isSheet d _ _ hz ?_
  by_cases c : 0 ≤ z ∧ z ≤ 3
  · rw [if_pos c]
    refine And.intro (fun q => absurd q (by decide)) (fun _ => ?_)
    rcases (show z = 0 ∨ z = 1 ∨ z = 2 ∨ z = 3 by omega) with rfl | rfl | rfl | rfl
    · refine ixi 0 4 (by omega) ?_
      refine s_isLost0 (d + 1) _ (hH 0 (by omega)).1 (by have := hB 0; unfold zr; omega) ?_
      by_cases c1 : B 0 0 = -1
      · rw [if_pos c1]
        refine And.intro (fun q => absurd q (by decide)) (fun _ => ?_)
        exact s_finding (d + 1) _ (hlost 0 rfl (by omega) c1)
      · rw [if_neg c1]
        refine And.intro (fun _ => ?_) (fun q => absurd rfl q)
        have hok := hok 0 rfl (by omega) c1
        rw [← (hH 0 (by omega)).2.1] at hok
        exact hok
    · refine ixi 1 4 (by omega) ?_
      refine s_isLost1 (d + 1) _ (hH 1 (by omega)).1 (by have := hB 1; unfold zr; omega) ?_
      by_cases c1 : B 0 1 = -1
      · rw [if_pos c1]
        refine And.intro (fun q => absurd q (by decide)) (fun _ => ?_)
        exact s_finding (d + 1) _ (hlost 1 rfl (by omega) c1)
      · rw [if_neg c1]
        refine And.intro (fun _ => ?_) (fun q => absurd rfl q)
        have hok := hok 1 rfl (by omega) c1
        rw [← (hH 1 (by omega)).2.1] at hok
        exact hok
    · refine ixi 2 4 (by omega) ?_
      refine s_isLost2 (d + 1) _ (hH 2 (by omega)).1 (by have := hB 2; unfold zr; omega) ?_
      by_cases c1 : B 0 2 = -1
      · rw [if_pos c1]
        refine And.intro (fun q => absurd q (by decide)) (fun _ => ?_)
        exact s_finding (d + 1) _ (hlost 2 rfl (by omega) c1)
      · rw [if_neg c1]
        refine And.intro (fun _ => ?_) (fun q => absurd rfl q)
        have hok := hok 2 rfl (by omega) c1
        rw [← (hH 2 (by omega)).2.1] at hok
        exact hok
    · refine ixi 3 4 (by omega) ?_
      refine s_isLost3 (d + 1) _ (hH 3 (by omega)).1 (by have := hB 3; unfold zr; omega) ?_
      by_cases c1 : B 0 3 = -1
      · rw [if_pos c1]
        refine And.intro (fun q => absurd q (by decide)) (fun _ => ?_)
        exact s_finding (d + 1) _ (hlost 3 rfl (by omega) c1)
      · rw [if_neg c1]
        refine And.intro (fun _ => ?_) (fun q => absurd rfl q)
        have hok := hok 3 rfl (by omega) c1
        rw [← (hH 3 (by omega)).2.1] at hok
        exact hok
  · rw [if_neg c]
    exact And.intro (fun _ => hbad c) (fun q => absurd rfl q)
set_option maxRecDepth 100000 in
theorem c_lay (d : Nat) (Q : am_Q) {z f i v : Int} (hz : zr z) (hf : zr f) (hi : zr i) (hx : IX A B σ) (hwf : WF A B)
    (hbad : ¬ ((0 ≤ z ∧ z ≤ 3) ∧ (0 ≤ f ∧ f ≤ 2)) → Q (some (.int (Int32.ofInt (-2)))) (lo_M n w3 g σ τ r1 r2))
    (hfnd : ∀ s : Nat, z = (s : Int) → s < 4 → 0 ≤ f ∧ f ≤ 2 → fnd (B 0 s) (A 11 s) f i ≠ 0 → Q (some (.int (Int32.ofInt (-10 - fnd (B 0 s) (A 11 s) f i)))) (lo_M n w3 g (am_u σ 4 13 (Int32.ofInt (fnd (B 0 s) (A 11 s) f i))) τ r1 r2))
    (hok : ∀ s : Nat, z = (s : Int) → s < 4 → 0 ≤ f ∧ f ≤ 2 → fnd (B 0 s) (A 11 s) f i = 0 → Q (some (.int (Int32.ofInt 1))) (lo_M n w3 g (am_u σ (49 + 2 * s) i.toNat (cutI (B 0 s) (Int32.ofInt v))) τ r1 r2)) :
    am_d (d + 3) 81 [.ref 4, .int (Int32.ofInt z), .int (Int32.ofInt f), .int (Int32.ofInt i), .int (Int32.ofInt v)] 0 0 (lo_M n w3 g σ τ r1 r2) Q := by
  have hH := hx.2.2.2.2.2.2.2.1
  have hB := hwf.2.2.2.2.2.2.2.2.2.2.2.2.2.1
  have hA := hwf.2.2.2.2.2.2.2.2.2.2.2.2.1
  refine am_goT T_X9_lay [.ref 4, .int (Int32.ofInt z), .int (Int32.ofInt f), .int (Int32.ofInt i), .int (Int32.ofInt v), .null] rfl rfl (fun _ => false) 60 ?_
  refine s_isSheet d _ _ hz ?_
  by_cases c : 0 ≤ z ∧ z ≤ 3
  · rw [if_pos c]
    refine And.intro (fun q => absurd q (by decide)) (fun _ => ?_)
    refine s_isForm d _ _ hf ?_
    by_cases cf : 0 ≤ f ∧ f ≤ 2
    · rw [if_pos cf]
      refine And.intro (fun q => absurd q (by decide)) (fun _ => ?_)
      rcases (show z = 0 ∨ z = 1 ∨ z = 2 ∨ z = 3 by omega) with rfl | rfl | rfl | rfl
      · refine ixi 0 4 (by omega) ?_
        refine s_findingAt0 d _ (hH 0 (by omega)).1 (by have := hB 0; unfold zr; omega) (hH 0 (by omega)).2.1 (hA 0) hf hi ?_
        have hrg := fnd_rng (B 0 0) (A 11 0) f i
        refine And.intro (fun c1 => ?_) (fun c1 => ?_)
        · rw [zeq0 (by unfold zr; omega)] at c1
          have hi2 := fnd_in c1
          have := hA 0
          refine ixi 0 4 (by omega) ?_
          have hok := hok 0 rfl (by omega) cf c1
          show am_d (d + 2) 46 [.ref 48, .int (Int32.ofInt i), .int (Int32.ofInt v)] 0 0 _ _
          rw [show Int32.ofInt i = Int32.ofInt (i.toNat : Int) by congr 1; omega]
          exact s_put0 (d + 1) _ (hH 0 (by omega)).1 (by have := hB 0; unfold zr; omega) (by omega) hok
        · rw [zeq0 (by unfold zr; omega)] at c1
          exact s_finding (d + 1) _ (hfnd 0 rfl (by omega) cf c1)
      · refine ixi 1 4 (by omega) ?_
        refine s_findingAt1 d _ (hH 1 (by omega)).1 (by have := hB 1; unfold zr; omega) (hH 1 (by omega)).2.1 (hA 1) hf hi ?_
        have hrg := fnd_rng (B 0 1) (A 11 1) f i
        refine And.intro (fun c1 => ?_) (fun c1 => ?_)
        · rw [zeq0 (by unfold zr; omega)] at c1
          have hi2 := fnd_in c1
          have := hA 1
          refine ixi 1 4 (by omega) ?_
          have hok := hok 1 rfl (by omega) cf c1
          show am_d (d + 2) 46 [.ref 50, .int (Int32.ofInt i), .int (Int32.ofInt v)] 0 0 _ _
          rw [show Int32.ofInt i = Int32.ofInt (i.toNat : Int) by congr 1; omega]
          exact s_put1 (d + 1) _ (hH 1 (by omega)).1 (by have := hB 1; unfold zr; omega) (by omega) hok
        · rw [zeq0 (by unfold zr; omega)] at c1
          exact s_finding (d + 1) _ (hfnd 1 rfl (by omega) cf c1)
      · refine ixi 2 4 (by omega) ?_
        refine s_findingAt2 d _ (hH 2 (by omega)).1 (by have := hB 2; unfold zr; omega) (hH 2 (by omega)).2.1 (hA 2) hf hi ?_
        have hrg := fnd_rng (B 0 2) (A 11 2) f i
        refine And.intro (fun c1 => ?_) (fun c1 => ?_)
        · rw [zeq0 (by unfold zr; omega)] at c1
          have hi2 := fnd_in c1
          have := hA 2
          refine ixi 2 4 (by omega) ?_
          have hok := hok 2 rfl (by omega) cf c1
          show am_d (d + 2) 46 [.ref 52, .int (Int32.ofInt i), .int (Int32.ofInt v)] 0 0 _ _
          rw [show Int32.ofInt i = Int32.ofInt (i.toNat : Int) by congr 1; omega]
          exact s_put2 (d + 1) _ (hH 2 (by omega)).1 (by have := hB 2; unfold zr; omega) (by omega) hok
        · rw [zeq0 (by unfold zr; omega)] at c1
          exact s_finding (d + 1) _ (hfnd 2 rfl (by omega) cf c1)
      · refine ixi 3 4 (by omega) ?_
        refine s_findingAt3 d _ (hH 3 (by omega)).1 (by have := hB 3; unfold zr; omega) (hH 3 (by omega)).2.1 (hA 3) hf hi ?_
        have hrg := fnd_rng (B 0 3) (A 11 3) f i
        refine And.intro (fun c1 => ?_) (fun c1 => ?_)
        · rw [zeq0 (by unfold zr; omega)] at c1
          have hi2 := fnd_in c1
          have := hA 3
          refine ixi 3 4 (by omega) ?_
          have hok := hok 3 rfl (by omega) cf c1
          show am_d (d + 2) 46 [.ref 54, .int (Int32.ofInt i), .int (Int32.ofInt v)] 0 0 _ _
          rw [show Int32.ofInt i = Int32.ofInt (i.toNat : Int) by congr 1; omega]
          exact s_put3 (d + 1) _ (hH 3 (by omega)).1 (by have := hB 3; unfold zr; omega) (by omega) hok
        · rw [zeq0 (by unfold zr; omega)] at c1
          exact s_finding (d + 1) _ (hfnd 3 rfl (by omega) cf c1)
    · rw [if_neg cf]
      exact And.intro (fun _ => hbad (fun q => cf q.2)) (fun q => absurd rfl q)
  · rw [if_neg c]
    exact And.intro (fun _ => hbad (fun q => c q.1)) (fun q => absurd rfl q)
set_option maxRecDepth 100000 in
theorem c_get (d : Nat) (Q : am_Q) {z f i : Int} (hz : zr z) (hf : zr f) (hi : zr i) (hx : IX A B σ) (hwf : WF A B)
    (hbad : ¬ ((0 ≤ z ∧ z ≤ 3) ∧ (0 ≤ f ∧ f ≤ 2)) → Q (some (.int (Int32.ofInt (-2147483648)))) (lo_M n w3 g σ τ r1 r2))
    (hfnd : ∀ s : Nat, z = (s : Int) → s < 4 → 0 ≤ f ∧ f ≤ 2 → fnd (B 0 s) (A 11 s) f i ≠ 0 → Q (some (.int (Int32.ofInt (-2147483648)))) (lo_M n w3 g (am_u σ 4 13 (Int32.ofInt (fnd (B 0 s) (A 11 s) f i))) τ r1 r2))
    (hok : ∀ s : Nat, z = (s : Int) → s < 4 → 0 ≤ f ∧ f ≤ 2 → fnd (B 0 s) (A 11 s) f i = 0 → Q (some (.int (Int32.ofInt (B (1 + s) i.toNat)))) (lo_M n w3 g σ τ r1 r2)) :
    am_d (d + 3) 82 [.ref 4, .int (Int32.ofInt z), .int (Int32.ofInt f), .int (Int32.ofInt i)] 0 0 (lo_M n w3 g σ τ r1 r2) Q := by
  have hH := hx.2.2.2.2.2.2.2.1
  have hB := hwf.2.2.2.2.2.2.2.2.2.2.2.2.2.1
  have hA := hwf.2.2.2.2.2.2.2.2.2.2.2.2.1
  refine am_goT T_X9_get [.ref 4, .int (Int32.ofInt z), .int (Int32.ofInt f), .int (Int32.ofInt i), .null] rfl rfl (fun _ => false) 60 ?_
  refine s_isSheet d _ _ hz ?_
  by_cases c : 0 ≤ z ∧ z ≤ 3
  · rw [if_pos c]
    refine And.intro (fun q => absurd q (by decide)) (fun _ => ?_)
    refine s_isForm d _ _ hf ?_
    by_cases cf : 0 ≤ f ∧ f ≤ 2
    · rw [if_pos cf]
      refine And.intro (fun q => absurd q (by decide)) (fun _ => ?_)
      rcases (show z = 0 ∨ z = 1 ∨ z = 2 ∨ z = 3 by omega) with rfl | rfl | rfl | rfl
      · refine ixi 0 4 (by omega) ?_
        refine s_findingAt0 d _ (hH 0 (by omega)).1 (by have := hB 0; unfold zr; omega) (hH 0 (by omega)).2.1 (hA 0) hf hi ?_
        have hrg := fnd_rng (B 0 0) (A 11 0) f i
        refine And.intro (fun c1 => ?_) (fun c1 => ?_)
        · rw [zeq0 (by unfold zr; omega)] at c1
          have hi2 := fnd_in c1
          have := hA 0
          refine ixi 0 4 (by omega) ?_
          refine ixi i.toNat 60 (by omega) ?_ (by congr 1; omega)
          have hok := hok 0 rfl (by omega) cf c1
          rw [← (hH 0 (by omega)).2.2 i.toNat (by omega)] at hok
          exact hok
        · rw [zeq0 (by unfold zr; omega)] at c1
          exact hfnd 0 rfl (by omega) cf c1
      · refine ixi 1 4 (by omega) ?_
        refine s_findingAt1 d _ (hH 1 (by omega)).1 (by have := hB 1; unfold zr; omega) (hH 1 (by omega)).2.1 (hA 1) hf hi ?_
        have hrg := fnd_rng (B 0 1) (A 11 1) f i
        refine And.intro (fun c1 => ?_) (fun c1 => ?_)
        · rw [zeq0 (by unfold zr; omega)] at c1
          have hi2 := fnd_in c1
          have := hA 1
          refine ixi 1 4 (by omega) ?_
          refine ixi i.toNat 60 (by omega) ?_ (by congr 1; omega)
          have hok := hok 1 rfl (by omega) cf c1
          rw [← (hH 1 (by omega)).2.2 i.toNat (by omega)] at hok
          exact hok
        · rw [zeq0 (by unfold zr; omega)] at c1
          exact hfnd 1 rfl (by omega) cf c1
      · refine ixi 2 4 (by omega) ?_
        refine s_findingAt2 d _ (hH 2 (by omega)).1 (by have := hB 2; unfold zr; omega) (hH 2 (by omega)).2.1 (hA 2) hf hi ?_
        have hrg := fnd_rng (B 0 2) (A 11 2) f i
        refine And.intro (fun c1 => ?_) (fun c1 => ?_)
        · rw [zeq0 (by unfold zr; omega)] at c1
          have hi2 := fnd_in c1
          have := hA 2
          refine ixi 2 4 (by omega) ?_
          refine ixi i.toNat 60 (by omega) ?_ (by congr 1; omega)
          have hok := hok 2 rfl (by omega) cf c1
          rw [← (hH 2 (by omega)).2.2 i.toNat (by omega)] at hok
          exact hok
        · rw [zeq0 (by unfold zr; omega)] at c1
          exact hfnd 2 rfl (by omega) cf c1
      · refine ixi 3 4 (by omega) ?_
        refine s_findingAt3 d _ (hH 3 (by omega)).1 (by have := hB 3; unfold zr; omega) (hH 3 (by omega)).2.1 (hA 3) hf hi ?_
        have hrg := fnd_rng (B 0 3) (A 11 3) f i
        refine And.intro (fun c1 => ?_) (fun c1 => ?_)
        · rw [zeq0 (by unfold zr; omega)] at c1
          have hi2 := fnd_in c1
          have := hA 3
          refine ixi 3 4 (by omega) ?_
          refine ixi i.toNat 60 (by omega) ?_ (by congr 1; omega)
          have hok := hok 3 rfl (by omega) cf c1
          rw [← (hH 3 (by omega)).2.2 i.toNat (by omega)] at hok
          exact hok
        · rw [zeq0 (by unfold zr; omega)] at c1
          exact hfnd 3 rfl (by omega) cf c1
    · rw [if_neg cf]
      exact And.intro (fun _ => hbad (fun q => cf q.2)) (fun q => absurd rfl q)
  · rw [if_neg c]
    exact And.intro (fun _ => hbad (fun q => c q.1)) (fun q => absurd rfl q)
set_option maxRecDepth 100000 in
theorem c_write (d : Nat) (Q : am_Q) {z : Int} (hz : zr z) (hx : IX A B σ) (hwf : WF A B)
    (hbad : ¬ (0 ≤ z ∧ z ≤ 3) → Q (some (.int (Int32.ofInt (-2)))) (lo_M n w3 g σ τ r1 r2))
    (hlost : ∀ s : Nat, z = (s : Int) → s < 4 → B 0 s = -1 → Q (some (.int (Int32.ofInt (-11)))) (lo_M n w3 g (am_u σ 4 13 (Int32.ofInt 1)) τ r1 r2))
    (hok : ∀ s : Nat, z = (s : Int) → s < 4 → B 0 s ≠ -1 → ∀ σ' : Nat → Nat → Int32, (∀ c, c ≠ 22 → c ≠ 23 → c ≠ 24 → c ≠ 25 → c ≠ 49 + 2 * s → σ' c = σ c) → (∀ i, i ≠ 5 → σ' 23 i = σ 23 i) → (∀ j, σ' (49 + 2 * s) j = if j < min (A 11 s) (cnt A) then cutI (B 0 s) (Int32.ofInt (seatZ (SL A (A 3 1) (fun _ => true) (A 4)) j)) else σ (49 + 2 * s) j) → Q (some (.int (Int32.ofInt ((min (A 11 s) (cnt A) : Nat) : Int)))) (lo_M n w3 g σ' τ r1 r2)) :
    am_d (d + 5) 84 [.ref 4, .int (Int32.ofInt z)] 0 0 (lo_M n w3 g σ τ r1 r2) Q := by
  have hH := hx.2.2.2.2.2.2.2.1
  have hB := hwf.2.2.2.2.2.2.2.2.2.2.2.2.2.1
  have hA := hwf.2.2.2.2.2.2.2.2.2.2.2.2.1
  have hc := cnt_le A
  refine am_goT T_X9_write [.ref 4, .int (Int32.ofInt z), .null, .null, .null] rfl rfl (fun pc => Nat.beq pc 52) 60 ?_
  refine s_isSheet (d + 2) _ _ hz ?_
  by_cases c : 0 ≤ z ∧ z ≤ 3
  · rw [if_pos c]
    refine And.intro (fun q => absurd q (by decide)) (fun _ => ?_)
    rcases (show z = 0 ∨ z = 1 ∨ z = 2 ∨ z = 3 by omega) with rfl | rfl | rfl | rfl
    · refine ixi 0 4 (by omega) ?_
      refine s_isLost0 (d + 3) _ (hH 0 (by omega)).1 (by have := hB 0; unfold zr; omega) ?_
      by_cases c1 : B 0 0 = -1
      · rw [if_pos c1]
        refine And.intro (fun q => absurd q (by decide)) (fun _ => ?_)
        exact s_finding (d + 3) _ (hlost 0 rfl (by omega) c1)
      · rw [if_neg c1]
        refine And.intro (fun _ => ?_) (fun q => absurd rfl q)
        refine s_seatAll d _ hx hwf (fun σ1 k1 k2 k3 k4 k5 k6 => ?_)
        have h60 := hA 0
        have e : (if σ1 5 4 < σ1 48 2 then σ1 5 4 else σ1 48 2) = Int32.ofInt ((min (A 11 0) (cnt A) : Nat) : Int) := by
          rw [k1 5 (by decide) (by decide) (by decide) (by decide), k1 48 (by decide) (by decide) (by decide) (by decide), hx.1.2.2.1, (hH 0 (by omega)).2.1, zmin (by unfold zr; omega) (by unfold zr; omega)]
          congr 1
          omega
        show am_wp _ _ _ (52, [.ref 4, .int (Int32.ofInt 0), .ref 48, .int (if σ1 5 4 < σ1 48 2 then σ1 5 4 else σ1 48 2), .int (Int32.ofInt 0)], [], 0, 0) (lo_M n w3 g σ1 τ r1 r2)
        rw [e]
        refine s_write_loop0 (d + 3) Q (x1 := Int32.ofInt 0) (f := B 0 0) (by have := hB 0; unfold zr; omega) (by omega) (min (A 11 0) (cnt A)) 0 σ1 (by omega) (by rw [k1 48 (by decide) (by decide) (by decide) (by decide)]; exact (hH 0 (by omega)).1) (fun σ' m1 m2 => ?_)
        refine hok 0 rfl (by omega) c1 σ' (fun c e1 e2 e3 e4 e5 => by rw [m1 c e5, k1 c e1 e2 e3 e4]) (fun i hi => by rw [m1 23 (by decide), k2 i hi]) (fun j => ?_)
        refine (m2 j).trans ?_
        by_cases cj : j < min (A 11 0) (cnt A)
        · rw [if_pos ⟨Nat.zero_le _, cj⟩, if_pos cj, k6 j (by omega)]
        · rw [if_neg (fun q => cj q.2), if_neg cj, k1 49 (by decide) (by decide) (by decide) (by decide)]
    · refine ixi 1 4 (by omega) ?_
      refine s_isLost1 (d + 3) _ (hH 1 (by omega)).1 (by have := hB 1; unfold zr; omega) ?_
      by_cases c1 : B 0 1 = -1
      · rw [if_pos c1]
        refine And.intro (fun q => absurd q (by decide)) (fun _ => ?_)
        exact s_finding (d + 3) _ (hlost 1 rfl (by omega) c1)
      · rw [if_neg c1]
        refine And.intro (fun _ => ?_) (fun q => absurd rfl q)
        refine s_seatAll d _ hx hwf (fun σ1 k1 k2 k3 k4 k5 k6 => ?_)
        have h60 := hA 1
        have e : (if σ1 5 4 < σ1 50 2 then σ1 5 4 else σ1 50 2) = Int32.ofInt ((min (A 11 1) (cnt A) : Nat) : Int) := by
          rw [k1 5 (by decide) (by decide) (by decide) (by decide), k1 50 (by decide) (by decide) (by decide) (by decide), hx.1.2.2.1, (hH 1 (by omega)).2.1, zmin (by unfold zr; omega) (by unfold zr; omega)]
          congr 1
          omega
        show am_wp _ _ _ (52, [.ref 4, .int (Int32.ofInt 1), .ref 50, .int (if σ1 5 4 < σ1 50 2 then σ1 5 4 else σ1 50 2), .int (Int32.ofInt 0)], [], 0, 0) (lo_M n w3 g σ1 τ r1 r2)
        rw [e]
        refine s_write_loop1 (d + 3) Q (x1 := Int32.ofInt 1) (f := B 0 1) (by have := hB 1; unfold zr; omega) (by omega) (min (A 11 1) (cnt A)) 0 σ1 (by omega) (by rw [k1 50 (by decide) (by decide) (by decide) (by decide)]; exact (hH 1 (by omega)).1) (fun σ' m1 m2 => ?_)
        refine hok 1 rfl (by omega) c1 σ' (fun c e1 e2 e3 e4 e5 => by rw [m1 c e5, k1 c e1 e2 e3 e4]) (fun i hi => by rw [m1 23 (by decide), k2 i hi]) (fun j => ?_)
        refine (m2 j).trans ?_
        by_cases cj : j < min (A 11 1) (cnt A)
        · rw [if_pos ⟨Nat.zero_le _, cj⟩, if_pos cj, k6 j (by omega)]
        · rw [if_neg (fun q => cj q.2), if_neg cj, k1 51 (by decide) (by decide) (by decide) (by decide)]
    · refine ixi 2 4 (by omega) ?_
      refine s_isLost2 (d + 3) _ (hH 2 (by omega)).1 (by have := hB 2; unfold zr; omega) ?_
      by_cases c1 : B 0 2 = -1
      · rw [if_pos c1]
        refine And.intro (fun q => absurd q (by decide)) (fun _ => ?_)
        exact s_finding (d + 3) _ (hlost 2 rfl (by omega) c1)
      · rw [if_neg c1]
        refine And.intro (fun _ => ?_) (fun q => absurd rfl q)
        refine s_seatAll d _ hx hwf (fun σ1 k1 k2 k3 k4 k5 k6 => ?_)
        have h60 := hA 2
        have e : (if σ1 5 4 < σ1 52 2 then σ1 5 4 else σ1 52 2) = Int32.ofInt ((min (A 11 2) (cnt A) : Nat) : Int) := by
          rw [k1 5 (by decide) (by decide) (by decide) (by decide), k1 52 (by decide) (by decide) (by decide) (by decide), hx.1.2.2.1, (hH 2 (by omega)).2.1, zmin (by unfold zr; omega) (by unfold zr; omega)]
          congr 1
          omega
        show am_wp _ _ _ (52, [.ref 4, .int (Int32.ofInt 2), .ref 52, .int (if σ1 5 4 < σ1 52 2 then σ1 5 4 else σ1 52 2), .int (Int32.ofInt 0)], [], 0, 0) (lo_M n w3 g σ1 τ r1 r2)
        rw [e]
        refine s_write_loop2 (d + 3) Q (x1 := Int32.ofInt 2) (f := B 0 2) (by have := hB 2; unfold zr; omega) (by omega) (min (A 11 2) (cnt A)) 0 σ1 (by omega) (by rw [k1 52 (by decide) (by decide) (by decide) (by decide)]; exact (hH 2 (by omega)).1) (fun σ' m1 m2 => ?_)
        refine hok 2 rfl (by omega) c1 σ' (fun c e1 e2 e3 e4 e5 => by rw [m1 c e5, k1 c e1 e2 e3 e4]) (fun i hi => by rw [m1 23 (by decide), k2 i hi]) (fun j => ?_)
        refine (m2 j).trans ?_
        by_cases cj : j < min (A 11 2) (cnt A)
        · rw [if_pos ⟨Nat.zero_le _, cj⟩, if_pos cj, k6 j (by omega)]
        · rw [if_neg (fun q => cj q.2), if_neg cj, k1 53 (by decide) (by decide) (by decide) (by decide)]
    · refine ixi 3 4 (by omega) ?_
      refine s_isLost3 (d + 3) _ (hH 3 (by omega)).1 (by have := hB 3; unfold zr; omega) ?_
      by_cases c1 : B 0 3 = -1
      · rw [if_pos c1]
        refine And.intro (fun q => absurd q (by decide)) (fun _ => ?_)
        exact s_finding (d + 3) _ (hlost 3 rfl (by omega) c1)
      · rw [if_neg c1]
        refine And.intro (fun _ => ?_) (fun q => absurd rfl q)
        refine s_seatAll d _ hx hwf (fun σ1 k1 k2 k3 k4 k5 k6 => ?_)
        have h60 := hA 3
        have e : (if σ1 5 4 < σ1 54 2 then σ1 5 4 else σ1 54 2) = Int32.ofInt ((min (A 11 3) (cnt A) : Nat) : Int) := by
          rw [k1 5 (by decide) (by decide) (by decide) (by decide), k1 54 (by decide) (by decide) (by decide) (by decide), hx.1.2.2.1, (hH 3 (by omega)).2.1, zmin (by unfold zr; omega) (by unfold zr; omega)]
          congr 1
          omega
        show am_wp _ _ _ (52, [.ref 4, .int (Int32.ofInt 3), .ref 54, .int (if σ1 5 4 < σ1 54 2 then σ1 5 4 else σ1 54 2), .int (Int32.ofInt 0)], [], 0, 0) (lo_M n w3 g σ1 τ r1 r2)
        rw [e]
        refine s_write_loop3 (d + 3) Q (x1 := Int32.ofInt 3) (f := B 0 3) (by have := hB 3; unfold zr; omega) (by omega) (min (A 11 3) (cnt A)) 0 σ1 (by omega) (by rw [k1 54 (by decide) (by decide) (by decide) (by decide)]; exact (hH 3 (by omega)).1) (fun σ' m1 m2 => ?_)
        refine hok 3 rfl (by omega) c1 σ' (fun c e1 e2 e3 e4 e5 => by rw [m1 c e5, k1 c e1 e2 e3 e4]) (fun i hi => by rw [m1 23 (by decide), k2 i hi]) (fun j => ?_)
        refine (m2 j).trans ?_
        by_cases cj : j < min (A 11 3) (cnt A)
        · rw [if_pos ⟨Nat.zero_le _, cj⟩, if_pos cj, k6 j (by omega)]
        · rw [if_neg (fun q => cj q.2), if_neg cj, k1 55 (by decide) (by decide) (by decide) (by decide)]
  · rw [if_neg c]
    exact And.intro (fun _ => hbad c) (fun q => absurd rfl q)
set_option maxRecDepth 100000 in
theorem c_read (d : Nat) (Q : am_Q) {z : Int} (hz : zr z) (hx : IX A B σ) (hwf : WF A B)
    (hbad : ¬ (0 ≤ z ∧ z ≤ 3) → Q (some (.int (Int32.ofInt (-2)))) (lo_M n w3 g σ τ r1 r2))
    (hlost : ∀ s : Nat, z = (s : Int) → s < 4 → B 0 s = -1 → Q (some (.int (Int32.ofInt (-11)))) (lo_M n w3 g (am_u σ 4 13 (Int32.ofInt 1)) τ r1 r2))
    (hok : ∀ s : Nat, z = (s : Int) → s < 4 → B 0 s ≠ -1 → ∀ σ' : Nat → Nat → Int32, (∀ c, c ≠ 21 → σ' c = σ c) → (∀ j, σ' 21 j = if j < rdk (B (1 + s)) (min (A 11 s) 7) 0 then Int32.ofInt (B (1 + s) j) else σ 21 j) → Q (some (.int (Int32.ofInt (rdk (B (1 + s)) (min (A 11 s) 7) 0 : Int)))) (lo_M n w3 g (am_u σ' 4 15 (Int32.ofInt 0)) τ r1 r2)) :
    am_d (d + 3) 60 [.ref 4, .int (Int32.ofInt z)] 0 0 (lo_M n w3 g σ τ r1 r2) Q := by
  have hH := hx.2.2.2.2.2.2.2.1
  have hB := hwf.2.2.2.2.2.2.2.2.2.2.2.2.2.1
  have hBi := hwf.2.2.2.2.2.2.2.2.2.2.2.2.2.2.1
  have hA := hwf.2.2.2.2.2.2.2.2.2.2.2.2.1
  refine am_goT T_X9_read [.ref 4, .int (Int32.ofInt z), .null, .null, .null] rfl rfl (fun pc => Nat.beq pc 43) 60 ?_
  refine s_isSheet d _ _ hz ?_
  by_cases c : 0 ≤ z ∧ z ≤ 3
  · rw [if_pos c]
    refine And.intro (fun q => absurd q (by decide)) (fun _ => ?_)
    rcases (show z = 0 ∨ z = 1 ∨ z = 2 ∨ z = 3 by omega) with rfl | rfl | rfl | rfl
    · refine ixi 0 4 (by omega) ?_
      refine s_isLost0 (d + 1) _ (hH 0 (by omega)).1 (by have := hB 0; unfold zr; omega) ?_
      by_cases c1 : B 0 0 = -1
      · rw [if_pos c1]
        refine And.intro (fun q => absurd q (by decide)) (fun _ => ?_)
        exact s_finding (d + 1) _ (hlost 0 rfl (by omega) c1)
      · rw [if_neg c1]
        refine And.intro (fun _ => ?_) (fun q => absurd rfl q)
        have h60 := hA 0
        have e : (if Int32.ofInt 7 < σ 48 2 then Int32.ofInt 7 else σ 48 2) = Int32.ofInt ((min (A 11 0) 7 : Nat) : Int) := by
          rw [(hH 0 (by omega)).2.1, zmin (by unfold zr; omega) (by unfold zr; omega)]
          congr 1
          omega
        show am_wp _ _ _ (43, [.ref 4, .int (Int32.ofInt 0), .ref 48, .int (if Int32.ofInt 7 < σ 48 2 then Int32.ofInt 7 else σ 48 2), .int (Int32.ofInt 0)], [], 0, 0) (lo_M n w3 g σ τ r1 r2)
        rw [e]
        refine s_read_loop0 (d + 1) Q (x1 := Int32.ofInt 0) (f := B (1 + 0)) (by omega) (fun j _ => hBi 0 j) (min (A 11 0) 7) 0 σ (by omega) (fun j hj => (hH 0 (by omega)).2.2 j (by omega)) (fun σ' m1 m2 => ?_)
        refine hok 0 rfl (by omega) c1 σ' m1 (fun j => ?_)
        refine (m2 j).trans ?_
        by_cases cj : j < rdk (B (1 + 0)) (min (A 11 0) 7) 0
        · rw [if_pos ⟨Nat.zero_le _, cj⟩, if_pos cj]
        · rw [if_neg (fun q => cj q.2), if_neg cj]
    · refine ixi 1 4 (by omega) ?_
      refine s_isLost1 (d + 1) _ (hH 1 (by omega)).1 (by have := hB 1; unfold zr; omega) ?_
      by_cases c1 : B 0 1 = -1
      · rw [if_pos c1]
        refine And.intro (fun q => absurd q (by decide)) (fun _ => ?_)
        exact s_finding (d + 1) _ (hlost 1 rfl (by omega) c1)
      · rw [if_neg c1]
        refine And.intro (fun _ => ?_) (fun q => absurd rfl q)
        have h60 := hA 1
        have e : (if Int32.ofInt 7 < σ 50 2 then Int32.ofInt 7 else σ 50 2) = Int32.ofInt ((min (A 11 1) 7 : Nat) : Int) := by
          rw [(hH 1 (by omega)).2.1, zmin (by unfold zr; omega) (by unfold zr; omega)]
          congr 1
          omega
        show am_wp _ _ _ (43, [.ref 4, .int (Int32.ofInt 1), .ref 50, .int (if Int32.ofInt 7 < σ 50 2 then Int32.ofInt 7 else σ 50 2), .int (Int32.ofInt 0)], [], 0, 0) (lo_M n w3 g σ τ r1 r2)
        rw [e]
        refine s_read_loop1 (d + 1) Q (x1 := Int32.ofInt 1) (f := B (1 + 1)) (by omega) (fun j _ => hBi 1 j) (min (A 11 1) 7) 0 σ (by omega) (fun j hj => (hH 1 (by omega)).2.2 j (by omega)) (fun σ' m1 m2 => ?_)
        refine hok 1 rfl (by omega) c1 σ' m1 (fun j => ?_)
        refine (m2 j).trans ?_
        by_cases cj : j < rdk (B (1 + 1)) (min (A 11 1) 7) 0
        · rw [if_pos ⟨Nat.zero_le _, cj⟩, if_pos cj]
        · rw [if_neg (fun q => cj q.2), if_neg cj]
    · refine ixi 2 4 (by omega) ?_
      refine s_isLost2 (d + 1) _ (hH 2 (by omega)).1 (by have := hB 2; unfold zr; omega) ?_
      by_cases c1 : B 0 2 = -1
      · rw [if_pos c1]
        refine And.intro (fun q => absurd q (by decide)) (fun _ => ?_)
        exact s_finding (d + 1) _ (hlost 2 rfl (by omega) c1)
      · rw [if_neg c1]
        refine And.intro (fun _ => ?_) (fun q => absurd rfl q)
        have h60 := hA 2
        have e : (if Int32.ofInt 7 < σ 52 2 then Int32.ofInt 7 else σ 52 2) = Int32.ofInt ((min (A 11 2) 7 : Nat) : Int) := by
          rw [(hH 2 (by omega)).2.1, zmin (by unfold zr; omega) (by unfold zr; omega)]
          congr 1
          omega
        show am_wp _ _ _ (43, [.ref 4, .int (Int32.ofInt 2), .ref 52, .int (if Int32.ofInt 7 < σ 52 2 then Int32.ofInt 7 else σ 52 2), .int (Int32.ofInt 0)], [], 0, 0) (lo_M n w3 g σ τ r1 r2)
        rw [e]
        refine s_read_loop2 (d + 1) Q (x1 := Int32.ofInt 2) (f := B (1 + 2)) (by omega) (fun j _ => hBi 2 j) (min (A 11 2) 7) 0 σ (by omega) (fun j hj => (hH 2 (by omega)).2.2 j (by omega)) (fun σ' m1 m2 => ?_)
        refine hok 2 rfl (by omega) c1 σ' m1 (fun j => ?_)
        refine (m2 j).trans ?_
        by_cases cj : j < rdk (B (1 + 2)) (min (A 11 2) 7) 0
        · rw [if_pos ⟨Nat.zero_le _, cj⟩, if_pos cj]
        · rw [if_neg (fun q => cj q.2), if_neg cj]
    · refine ixi 3 4 (by omega) ?_
      refine s_isLost3 (d + 1) _ (hH 3 (by omega)).1 (by have := hB 3; unfold zr; omega) ?_
      by_cases c1 : B 0 3 = -1
      · rw [if_pos c1]
        refine And.intro (fun q => absurd q (by decide)) (fun _ => ?_)
        exact s_finding (d + 1) _ (hlost 3 rfl (by omega) c1)
      · rw [if_neg c1]
        refine And.intro (fun _ => ?_) (fun q => absurd rfl q)
        have h60 := hA 3
        have e : (if Int32.ofInt 7 < σ 54 2 then Int32.ofInt 7 else σ 54 2) = Int32.ofInt ((min (A 11 3) 7 : Nat) : Int) := by
          rw [(hH 3 (by omega)).2.1, zmin (by unfold zr; omega) (by unfold zr; omega)]
          congr 1
          omega
        show am_wp _ _ _ (43, [.ref 4, .int (Int32.ofInt 3), .ref 54, .int (if Int32.ofInt 7 < σ 54 2 then Int32.ofInt 7 else σ 54 2), .int (Int32.ofInt 0)], [], 0, 0) (lo_M n w3 g σ τ r1 r2)
        rw [e]
        refine s_read_loop3 (d + 1) Q (x1 := Int32.ofInt 3) (f := B (1 + 3)) (by omega) (fun j _ => hBi 3 j) (min (A 11 3) 7) 0 σ (by omega) (fun j hj => (hH 3 (by omega)).2.2 j (by omega)) (fun σ' m1 m2 => ?_)
        refine hok 3 rfl (by omega) c1 σ' m1 (fun j => ?_)
        refine (m2 j).trans ?_
        by_cases cj : j < rdk (B (1 + 3)) (min (A 11 3) 7) 0
        · rw [if_pos ⟨Nat.zero_le _, cj⟩, if_pos cj]
        · rw [if_neg (fun q => cj q.2), if_neg cj]
  · rw [if_neg c]
    exact And.intro (fun _ => hbad c) (fun q => absurd rfl q)
set_option maxHeartbeats 4000000 in
set_option maxRecDepth 100000 in
theorem c_copy (d : Nat) (Q : am_Q) {z i y j m : Int} (hz : zr z) (hi : zr i) (hy : zr y) (hj : zr j) (hm : zr m) (hx : IX A B σ) (hwf : WF A B)
    (hbad : ¬ ((0 ≤ z ∧ z ≤ 3) ∧ 0 ≤ y ∧ y ≤ 3) → Q (some (.int (Int32.ofInt (-2)))) (lo_M n w3 g σ τ r1 r2))
    (hlost : ∀ s t : Nat, z = (s : Int) → s < 4 → y = (t : Int) → t < 4 → B 0 s = -1 ∨ B 0 t = -1 → Q (some (.int (Int32.ofInt (-11)))) (lo_M n w3 g (am_u σ 4 13 (Int32.ofInt 1)) τ r1 r2))
    (hform : ∀ s t : Nat, z = (s : Int) → s < 4 → y = (t : Int) → t < 4 → ¬ (B 0 s = -1 ∨ B 0 t = -1) → B 0 s ≠ B 0 t → Q (some (.int (Int32.ofInt (-14)))) (lo_M n w3 g (am_u σ 4 13 (Int32.ofInt 4)) τ r1 r2))
    (hidx : ∀ s t : Nat, z = (s : Int) → s < 4 → y = (t : Int) → t < 4 → ¬ (B 0 s = -1 ∨ B 0 t = -1) → B 0 s = B 0 t → ¬ (hld (A 11 s) i m ∧ hld (A 11 t) j m) → Q (some (.int (Int32.ofInt (-12)))) (lo_M n w3 g (am_u σ 4 13 (Int32.ofInt 2)) τ r1 r2))
    (hok : ∀ s t : Nat, z = (s : Int) → s < 4 → y = (t : Int) → t < 4 → ¬ (B 0 s = -1 ∨ B 0 t = -1) → B 0 s = B 0 t → hld (A 11 s) i m ∧ hld (A 11 t) j m → Q (some (.int (Int32.ofInt 1))) (lo_M n w3 g (am_ur σ (49 + 2 * t) (va_cpy (σ (49 + 2 * s)) (σ (49 + 2 * t)) i.toNat j.toNat m.toNat)) τ r1 r2)) :
    am_d (d + 3) 83 [.ref 4, .int (Int32.ofInt z), .int (Int32.ofInt i), .int (Int32.ofInt y), .int (Int32.ofInt j), .int (Int32.ofInt m)] 0 0 (lo_M n w3 g σ τ r1 r2) Q := by
  have hH := hx.2.2.2.2.2.2.2.1
  have hB := hwf.2.2.2.2.2.2.2.2.2.2.2.2.2.1
  have hA := hwf.2.2.2.2.2.2.2.2.2.2.2.2.1
  refine am_goT T_X9_copy [.ref 4, .int (Int32.ofInt z), .int (Int32.ofInt i), .int (Int32.ofInt y), .int (Int32.ofInt j), .int (Int32.ofInt m), .null, .null] rfl rfl (fun _ => false) 80 ?_
  refine s_isSheet d _ _ hz ?_
  by_cases c : 0 ≤ z ∧ z ≤ 3
  · rw [if_pos c]
    refine And.intro (fun q => absurd q (by decide)) (fun _ => ?_)
    refine s_isSheet d _ _ hy ?_
    by_cases cy : 0 ≤ y ∧ y ≤ 3
    · rw [if_pos cy]
      refine And.intro (fun q => absurd q (by decide)) (fun _ => ?_)
      rcases (show (z = 0 ∧ y = 0) ∨ (z = 0 ∧ y = 1) ∨ (z = 0 ∧ y = 2) ∨ (z = 0 ∧ y = 3) ∨ (z = 1 ∧ y = 0) ∨ (z = 1 ∧ y = 1) ∨ (z = 1 ∧ y = 2) ∨ (z = 1 ∧ y = 3) ∨ (z = 2 ∧ y = 0) ∨ (z = 2 ∧ y = 1) ∨ (z = 2 ∧ y = 2) ∨ (z = 2 ∧ y = 3) ∨ (z = 3 ∧ y = 0) ∨ (z = 3 ∧ y = 1) ∨ (z = 3 ∧ y = 2) ∨ (z = 3 ∧ y = 3) by omega) with ⟨rfl, rfl⟩ | ⟨rfl, rfl⟩ | ⟨rfl, rfl⟩ | ⟨rfl, rfl⟩ | ⟨rfl, rfl⟩ | ⟨rfl, rfl⟩ | ⟨rfl, rfl⟩ | ⟨rfl, rfl⟩ | ⟨rfl, rfl⟩ | ⟨rfl, rfl⟩ | ⟨rfl, rfl⟩ | ⟨rfl, rfl⟩ | ⟨rfl, rfl⟩ | ⟨rfl, rfl⟩ | ⟨rfl, rfl⟩ | ⟨rfl, rfl⟩
      · refine ixi 0 4 (by omega) ?_
        refine ixi 0 4 (by omega) ?_
        refine s_isLost0 (d + 1) _ (hH 0 (by omega)).1 (by have := hB 0; unfold zr; omega) ?_
        by_cases c1 : B 0 0 = -1
        · rw [if_pos c1]
          refine And.intro (fun q => absurd q (by decide)) (fun _ => ?_)
          exact s_finding (d + 1) _ (hlost 0 0 rfl (by omega) rfl (by omega) (Or.inl c1))
        · rw [if_neg c1]
          refine And.intro (fun _ => ?_) (fun q => absurd rfl q)
          refine s_isLost0 (d + 1) _ (hH 0 (by omega)).1 (by have := hB 0; unfold zr; omega) ?_
          by_cases c2 : B 0 0 = -1
          · rw [if_pos c2]
            refine And.intro (fun q => absurd q (by decide)) (fun _ => ?_)
            exact s_finding (d + 1) _ (hlost 0 0 rfl (by omega) rfl (by omega) (Or.inr c2))
          · rw [if_neg c2]
            refine And.intro (fun _ => ?_) (fun q => absurd rfl q)
            refine And.intro (fun c3 => ?_) (fun c3 => ?_)
            · have c3 : σ 48 1 = σ 48 1 := c3
              rw [(hH 0 (by omega)).1, zeq (by have := hB 0; unfold zr; omega) (by have := hB 0; unfold zr; omega)] at c3
              refine s_holds0 (d + 1) _ (hH 0 (by omega)).2.1 (hA 0) hi hm (fun c4 => ?_) (fun c4 => ?_)
              · refine And.intro (fun q => absurd q (by decide)) (fun _ => ?_)
                refine s_holds0 (d + 1) _ (hH 0 (by omega)).2.1 (hA 0) hj hm (fun c5 => ?_) (fun c5 => ?_)
                · refine And.intro (fun q => absurd q (by decide)) (fun _ => ?_)
                  have hok := hok 0 0 rfl (by omega) rfl (by omega) (fun q => q.elim c1 c2) c3 ⟨c4, c5⟩
                  have a1 := hA 0
                  have a2 := hA 0
                  have b1 := c4.1
                  have b2 := c4.2.1
                  have b3 := c4.2.2.2
                  have b4 := c5.1
                  have b5 := c5.2.2.2
                  have e1 : (Int32.ofInt i).toNatClampNeg = i.toNat := zcl (by congr 1; omega) (by omega)
                  have e2 : (Int32.ofInt j).toNatClampNeg = j.toNat := zcl (by congr 1; omega) (by omega)
                  have e3 : (Int32.ofInt m).toNatClampNeg = m.toNat := zcl (by congr 1; omega) (by omega)
                  rw [← e1, ← e2, ← e3] at hok
                  refine And.intro (by rw [zlt0 hi]; omega) (And.intro (by rw [zlt0 hj]; omega) (And.intro (by rw [zlt0 hm]; omega) (And.intro ?_ (And.intro ?_ hok))))
                  · rw [e1, e3]
                    show i.toNat + m.toNat ≤ 60
                    omega
                  · rw [e2, e3]
                    show j.toNat + m.toNat ≤ 60
                    omega
                · refine And.intro (fun _ => ?_) (fun q => absurd rfl q)
                  exact s_finding (d + 1) _ (hidx 0 0 rfl (by omega) rfl (by omega) (fun q => q.elim c1 c2) c3 (fun q => c5 q.2))
              · refine And.intro (fun _ => ?_) (fun q => absurd rfl q)
                exact s_finding (d + 1) _ (hidx 0 0 rfl (by omega) rfl (by omega) (fun q => q.elim c1 c2) c3 (fun q => c4 q.1))
            · have c3 : ¬ σ 48 1 = σ 48 1 := c3
              rw [(hH 0 (by omega)).1, zeq (by have := hB 0; unfold zr; omega) (by have := hB 0; unfold zr; omega)] at c3
              exact s_finding (d + 1) _ (hform 0 0 rfl (by omega) rfl (by omega) (fun q => q.elim c1 c2) c3)
      · refine ixi 0 4 (by omega) ?_
        refine ixi 1 4 (by omega) ?_
        refine s_isLost0 (d + 1) _ (hH 0 (by omega)).1 (by have := hB 0; unfold zr; omega) ?_
        by_cases c1 : B 0 0 = -1
        · rw [if_pos c1]
          refine And.intro (fun q => absurd q (by decide)) (fun _ => ?_)
          exact s_finding (d + 1) _ (hlost 0 1 rfl (by omega) rfl (by omega) (Or.inl c1))
        · rw [if_neg c1]
          refine And.intro (fun _ => ?_) (fun q => absurd rfl q)
          refine s_isLost1 (d + 1) _ (hH 1 (by omega)).1 (by have := hB 1; unfold zr; omega) ?_
          by_cases c2 : B 0 1 = -1
          · rw [if_pos c2]
            refine And.intro (fun q => absurd q (by decide)) (fun _ => ?_)
            exact s_finding (d + 1) _ (hlost 0 1 rfl (by omega) rfl (by omega) (Or.inr c2))
          · rw [if_neg c2]
            refine And.intro (fun _ => ?_) (fun q => absurd rfl q)
            refine And.intro (fun c3 => ?_) (fun c3 => ?_)
            · have c3 : σ 48 1 = σ 50 1 := c3
              rw [(hH 0 (by omega)).1, (hH 1 (by omega)).1, zeq (by have := hB 0; unfold zr; omega) (by have := hB 1; unfold zr; omega)] at c3
              refine s_holds0 (d + 1) _ (hH 0 (by omega)).2.1 (hA 0) hi hm (fun c4 => ?_) (fun c4 => ?_)
              · refine And.intro (fun q => absurd q (by decide)) (fun _ => ?_)
                refine s_holds1 (d + 1) _ (hH 1 (by omega)).2.1 (hA 1) hj hm (fun c5 => ?_) (fun c5 => ?_)
                · refine And.intro (fun q => absurd q (by decide)) (fun _ => ?_)
                  have hok := hok 0 1 rfl (by omega) rfl (by omega) (fun q => q.elim c1 c2) c3 ⟨c4, c5⟩
                  have a1 := hA 0
                  have a2 := hA 1
                  have b1 := c4.1
                  have b2 := c4.2.1
                  have b3 := c4.2.2.2
                  have b4 := c5.1
                  have b5 := c5.2.2.2
                  have e1 : (Int32.ofInt i).toNatClampNeg = i.toNat := zcl (by congr 1; omega) (by omega)
                  have e2 : (Int32.ofInt j).toNatClampNeg = j.toNat := zcl (by congr 1; omega) (by omega)
                  have e3 : (Int32.ofInt m).toNatClampNeg = m.toNat := zcl (by congr 1; omega) (by omega)
                  rw [← e1, ← e2, ← e3] at hok
                  refine And.intro (by rw [zlt0 hi]; omega) (And.intro (by rw [zlt0 hj]; omega) (And.intro (by rw [zlt0 hm]; omega) (And.intro ?_ (And.intro ?_ hok))))
                  · rw [e1, e3]
                    show i.toNat + m.toNat ≤ 60
                    omega
                  · rw [e2, e3]
                    show j.toNat + m.toNat ≤ 60
                    omega
                · refine And.intro (fun _ => ?_) (fun q => absurd rfl q)
                  exact s_finding (d + 1) _ (hidx 0 1 rfl (by omega) rfl (by omega) (fun q => q.elim c1 c2) c3 (fun q => c5 q.2))
              · refine And.intro (fun _ => ?_) (fun q => absurd rfl q)
                exact s_finding (d + 1) _ (hidx 0 1 rfl (by omega) rfl (by omega) (fun q => q.elim c1 c2) c3 (fun q => c4 q.1))
            · have c3 : ¬ σ 48 1 = σ 50 1 := c3
              rw [(hH 0 (by omega)).1, (hH 1 (by omega)).1, zeq (by have := hB 0; unfold zr; omega) (by have := hB 1; unfold zr; omega)] at c3
              exact s_finding (d + 1) _ (hform 0 1 rfl (by omega) rfl (by omega) (fun q => q.elim c1 c2) c3)
      · refine ixi 0 4 (by omega) ?_
        refine ixi 2 4 (by omega) ?_
        refine s_isLost0 (d + 1) _ (hH 0 (by omega)).1 (by have := hB 0; unfold zr; omega) ?_
        by_cases c1 : B 0 0 = -1
        · rw [if_pos c1]
          refine And.intro (fun q => absurd q (by decide)) (fun _ => ?_)
          exact s_finding (d + 1) _ (hlost 0 2 rfl (by omega) rfl (by omega) (Or.inl c1))
        · rw [if_neg c1]
          refine And.intro (fun _ => ?_) (fun q => absurd rfl q)
          refine s_isLost2 (d + 1) _ (hH 2 (by omega)).1 (by have := hB 2; unfold zr; omega) ?_
          by_cases c2 : B 0 2 = -1
          · rw [if_pos c2]
            refine And.intro (fun q => absurd q (by decide)) (fun _ => ?_)
            exact s_finding (d + 1) _ (hlost 0 2 rfl (by omega) rfl (by omega) (Or.inr c2))
          · rw [if_neg c2]
            refine And.intro (fun _ => ?_) (fun q => absurd rfl q)
            refine And.intro (fun c3 => ?_) (fun c3 => ?_)
            · have c3 : σ 48 1 = σ 52 1 := c3
              rw [(hH 0 (by omega)).1, (hH 2 (by omega)).1, zeq (by have := hB 0; unfold zr; omega) (by have := hB 2; unfold zr; omega)] at c3
              refine s_holds0 (d + 1) _ (hH 0 (by omega)).2.1 (hA 0) hi hm (fun c4 => ?_) (fun c4 => ?_)
              · refine And.intro (fun q => absurd q (by decide)) (fun _ => ?_)
                refine s_holds2 (d + 1) _ (hH 2 (by omega)).2.1 (hA 2) hj hm (fun c5 => ?_) (fun c5 => ?_)
                · refine And.intro (fun q => absurd q (by decide)) (fun _ => ?_)
                  have hok := hok 0 2 rfl (by omega) rfl (by omega) (fun q => q.elim c1 c2) c3 ⟨c4, c5⟩
                  have a1 := hA 0
                  have a2 := hA 2
                  have b1 := c4.1
                  have b2 := c4.2.1
                  have b3 := c4.2.2.2
                  have b4 := c5.1
                  have b5 := c5.2.2.2
                  have e1 : (Int32.ofInt i).toNatClampNeg = i.toNat := zcl (by congr 1; omega) (by omega)
                  have e2 : (Int32.ofInt j).toNatClampNeg = j.toNat := zcl (by congr 1; omega) (by omega)
                  have e3 : (Int32.ofInt m).toNatClampNeg = m.toNat := zcl (by congr 1; omega) (by omega)
                  rw [← e1, ← e2, ← e3] at hok
                  refine And.intro (by rw [zlt0 hi]; omega) (And.intro (by rw [zlt0 hj]; omega) (And.intro (by rw [zlt0 hm]; omega) (And.intro ?_ (And.intro ?_ hok))))
                  · rw [e1, e3]
                    show i.toNat + m.toNat ≤ 60
                    omega
                  · rw [e2, e3]
                    show j.toNat + m.toNat ≤ 60
                    omega
                · refine And.intro (fun _ => ?_) (fun q => absurd rfl q)
                  exact s_finding (d + 1) _ (hidx 0 2 rfl (by omega) rfl (by omega) (fun q => q.elim c1 c2) c3 (fun q => c5 q.2))
              · refine And.intro (fun _ => ?_) (fun q => absurd rfl q)
                exact s_finding (d + 1) _ (hidx 0 2 rfl (by omega) rfl (by omega) (fun q => q.elim c1 c2) c3 (fun q => c4 q.1))
            · have c3 : ¬ σ 48 1 = σ 52 1 := c3
              rw [(hH 0 (by omega)).1, (hH 2 (by omega)).1, zeq (by have := hB 0; unfold zr; omega) (by have := hB 2; unfold zr; omega)] at c3
              exact s_finding (d + 1) _ (hform 0 2 rfl (by omega) rfl (by omega) (fun q => q.elim c1 c2) c3)
      · refine ixi 0 4 (by omega) ?_
        refine ixi 3 4 (by omega) ?_
        refine s_isLost0 (d + 1) _ (hH 0 (by omega)).1 (by have := hB 0; unfold zr; omega) ?_
        by_cases c1 : B 0 0 = -1
        · rw [if_pos c1]
          refine And.intro (fun q => absurd q (by decide)) (fun _ => ?_)
          exact s_finding (d + 1) _ (hlost 0 3 rfl (by omega) rfl (by omega) (Or.inl c1))
        · rw [if_neg c1]
          refine And.intro (fun _ => ?_) (fun q => absurd rfl q)
          refine s_isLost3 (d + 1) _ (hH 3 (by omega)).1 (by have := hB 3; unfold zr; omega) ?_
          by_cases c2 : B 0 3 = -1
          · rw [if_pos c2]
            refine And.intro (fun q => absurd q (by decide)) (fun _ => ?_)
            exact s_finding (d + 1) _ (hlost 0 3 rfl (by omega) rfl (by omega) (Or.inr c2))
          · rw [if_neg c2]
            refine And.intro (fun _ => ?_) (fun q => absurd rfl q)
            refine And.intro (fun c3 => ?_) (fun c3 => ?_)
            · have c3 : σ 48 1 = σ 54 1 := c3
              rw [(hH 0 (by omega)).1, (hH 3 (by omega)).1, zeq (by have := hB 0; unfold zr; omega) (by have := hB 3; unfold zr; omega)] at c3
              refine s_holds0 (d + 1) _ (hH 0 (by omega)).2.1 (hA 0) hi hm (fun c4 => ?_) (fun c4 => ?_)
              · refine And.intro (fun q => absurd q (by decide)) (fun _ => ?_)
                refine s_holds3 (d + 1) _ (hH 3 (by omega)).2.1 (hA 3) hj hm (fun c5 => ?_) (fun c5 => ?_)
                · refine And.intro (fun q => absurd q (by decide)) (fun _ => ?_)
                  have hok := hok 0 3 rfl (by omega) rfl (by omega) (fun q => q.elim c1 c2) c3 ⟨c4, c5⟩
                  have a1 := hA 0
                  have a2 := hA 3
                  have b1 := c4.1
                  have b2 := c4.2.1
                  have b3 := c4.2.2.2
                  have b4 := c5.1
                  have b5 := c5.2.2.2
                  have e1 : (Int32.ofInt i).toNatClampNeg = i.toNat := zcl (by congr 1; omega) (by omega)
                  have e2 : (Int32.ofInt j).toNatClampNeg = j.toNat := zcl (by congr 1; omega) (by omega)
                  have e3 : (Int32.ofInt m).toNatClampNeg = m.toNat := zcl (by congr 1; omega) (by omega)
                  rw [← e1, ← e2, ← e3] at hok
                  refine And.intro (by rw [zlt0 hi]; omega) (And.intro (by rw [zlt0 hj]; omega) (And.intro (by rw [zlt0 hm]; omega) (And.intro ?_ (And.intro ?_ hok))))
                  · rw [e1, e3]
                    show i.toNat + m.toNat ≤ 60
                    omega
                  · rw [e2, e3]
                    show j.toNat + m.toNat ≤ 60
                    omega
                · refine And.intro (fun _ => ?_) (fun q => absurd rfl q)
                  exact s_finding (d + 1) _ (hidx 0 3 rfl (by omega) rfl (by omega) (fun q => q.elim c1 c2) c3 (fun q => c5 q.2))
              · refine And.intro (fun _ => ?_) (fun q => absurd rfl q)
                exact s_finding (d + 1) _ (hidx 0 3 rfl (by omega) rfl (by omega) (fun q => q.elim c1 c2) c3 (fun q => c4 q.1))
            · have c3 : ¬ σ 48 1 = σ 54 1 := c3
              rw [(hH 0 (by omega)).1, (hH 3 (by omega)).1, zeq (by have := hB 0; unfold zr; omega) (by have := hB 3; unfold zr; omega)] at c3
              exact s_finding (d + 1) _ (hform 0 3 rfl (by omega) rfl (by omega) (fun q => q.elim c1 c2) c3)
      · refine ixi 1 4 (by omega) ?_
        refine ixi 0 4 (by omega) ?_
        refine s_isLost1 (d + 1) _ (hH 1 (by omega)).1 (by have := hB 1; unfold zr; omega) ?_
        by_cases c1 : B 0 1 = -1
        · rw [if_pos c1]
          refine And.intro (fun q => absurd q (by decide)) (fun _ => ?_)
          exact s_finding (d + 1) _ (hlost 1 0 rfl (by omega) rfl (by omega) (Or.inl c1))
        · rw [if_neg c1]
          refine And.intro (fun _ => ?_) (fun q => absurd rfl q)
          refine s_isLost0 (d + 1) _ (hH 0 (by omega)).1 (by have := hB 0; unfold zr; omega) ?_
          by_cases c2 : B 0 0 = -1
          · rw [if_pos c2]
            refine And.intro (fun q => absurd q (by decide)) (fun _ => ?_)
            exact s_finding (d + 1) _ (hlost 1 0 rfl (by omega) rfl (by omega) (Or.inr c2))
          · rw [if_neg c2]
            refine And.intro (fun _ => ?_) (fun q => absurd rfl q)
            refine And.intro (fun c3 => ?_) (fun c3 => ?_)
            · have c3 : σ 50 1 = σ 48 1 := c3
              rw [(hH 1 (by omega)).1, (hH 0 (by omega)).1, zeq (by have := hB 1; unfold zr; omega) (by have := hB 0; unfold zr; omega)] at c3
              refine s_holds1 (d + 1) _ (hH 1 (by omega)).2.1 (hA 1) hi hm (fun c4 => ?_) (fun c4 => ?_)
              · refine And.intro (fun q => absurd q (by decide)) (fun _ => ?_)
                refine s_holds0 (d + 1) _ (hH 0 (by omega)).2.1 (hA 0) hj hm (fun c5 => ?_) (fun c5 => ?_)
                · refine And.intro (fun q => absurd q (by decide)) (fun _ => ?_)
                  have hok := hok 1 0 rfl (by omega) rfl (by omega) (fun q => q.elim c1 c2) c3 ⟨c4, c5⟩
                  have a1 := hA 1
                  have a2 := hA 0
                  have b1 := c4.1
                  have b2 := c4.2.1
                  have b3 := c4.2.2.2
                  have b4 := c5.1
                  have b5 := c5.2.2.2
                  have e1 : (Int32.ofInt i).toNatClampNeg = i.toNat := zcl (by congr 1; omega) (by omega)
                  have e2 : (Int32.ofInt j).toNatClampNeg = j.toNat := zcl (by congr 1; omega) (by omega)
                  have e3 : (Int32.ofInt m).toNatClampNeg = m.toNat := zcl (by congr 1; omega) (by omega)
                  rw [← e1, ← e2, ← e3] at hok
                  refine And.intro (by rw [zlt0 hi]; omega) (And.intro (by rw [zlt0 hj]; omega) (And.intro (by rw [zlt0 hm]; omega) (And.intro ?_ (And.intro ?_ hok))))
                  · rw [e1, e3]
                    show i.toNat + m.toNat ≤ 60
                    omega
                  · rw [e2, e3]
                    show j.toNat + m.toNat ≤ 60
                    omega
                · refine And.intro (fun _ => ?_) (fun q => absurd rfl q)
                  exact s_finding (d + 1) _ (hidx 1 0 rfl (by omega) rfl (by omega) (fun q => q.elim c1 c2) c3 (fun q => c5 q.2))
              · refine And.intro (fun _ => ?_) (fun q => absurd rfl q)
                exact s_finding (d + 1) _ (hidx 1 0 rfl (by omega) rfl (by omega) (fun q => q.elim c1 c2) c3 (fun q => c4 q.1))
            · have c3 : ¬ σ 50 1 = σ 48 1 := c3
              rw [(hH 1 (by omega)).1, (hH 0 (by omega)).1, zeq (by have := hB 1; unfold zr; omega) (by have := hB 0; unfold zr; omega)] at c3
              exact s_finding (d + 1) _ (hform 1 0 rfl (by omega) rfl (by omega) (fun q => q.elim c1 c2) c3)
      · refine ixi 1 4 (by omega) ?_
        refine ixi 1 4 (by omega) ?_
        refine s_isLost1 (d + 1) _ (hH 1 (by omega)).1 (by have := hB 1; unfold zr; omega) ?_
        by_cases c1 : B 0 1 = -1
        · rw [if_pos c1]
          refine And.intro (fun q => absurd q (by decide)) (fun _ => ?_)
          exact s_finding (d + 1) _ (hlost 1 1 rfl (by omega) rfl (by omega) (Or.inl c1))
        · rw [if_neg c1]
          refine And.intro (fun _ => ?_) (fun q => absurd rfl q)
          refine s_isLost1 (d + 1) _ (hH 1 (by omega)).1 (by have := hB 1; unfold zr; omega) ?_
          by_cases c2 : B 0 1 = -1
          · rw [if_pos c2]
            refine And.intro (fun q => absurd q (by decide)) (fun _ => ?_)
            exact s_finding (d + 1) _ (hlost 1 1 rfl (by omega) rfl (by omega) (Or.inr c2))
          · rw [if_neg c2]
            refine And.intro (fun _ => ?_) (fun q => absurd rfl q)
            refine And.intro (fun c3 => ?_) (fun c3 => ?_)
            · have c3 : σ 50 1 = σ 50 1 := c3
              rw [(hH 1 (by omega)).1, zeq (by have := hB 1; unfold zr; omega) (by have := hB 1; unfold zr; omega)] at c3
              refine s_holds1 (d + 1) _ (hH 1 (by omega)).2.1 (hA 1) hi hm (fun c4 => ?_) (fun c4 => ?_)
              · refine And.intro (fun q => absurd q (by decide)) (fun _ => ?_)
                refine s_holds1 (d + 1) _ (hH 1 (by omega)).2.1 (hA 1) hj hm (fun c5 => ?_) (fun c5 => ?_)
                · refine And.intro (fun q => absurd q (by decide)) (fun _ => ?_)
                  have hok := hok 1 1 rfl (by omega) rfl (by omega) (fun q => q.elim c1 c2) c3 ⟨c4, c5⟩
                  have a1 := hA 1
                  have a2 := hA 1
                  have b1 := c4.1
                  have b2 := c4.2.1
                  have b3 := c4.2.2.2
                  have b4 := c5.1
                  have b5 := c5.2.2.2
                  have e1 : (Int32.ofInt i).toNatClampNeg = i.toNat := zcl (by congr 1; omega) (by omega)
                  have e2 : (Int32.ofInt j).toNatClampNeg = j.toNat := zcl (by congr 1; omega) (by omega)
                  have e3 : (Int32.ofInt m).toNatClampNeg = m.toNat := zcl (by congr 1; omega) (by omega)
                  rw [← e1, ← e2, ← e3] at hok
                  refine And.intro (by rw [zlt0 hi]; omega) (And.intro (by rw [zlt0 hj]; omega) (And.intro (by rw [zlt0 hm]; omega) (And.intro ?_ (And.intro ?_ hok))))
                  · rw [e1, e3]
                    show i.toNat + m.toNat ≤ 60
                    omega
                  · rw [e2, e3]
                    show j.toNat + m.toNat ≤ 60
                    omega
                · refine And.intro (fun _ => ?_) (fun q => absurd rfl q)
                  exact s_finding (d + 1) _ (hidx 1 1 rfl (by omega) rfl (by omega) (fun q => q.elim c1 c2) c3 (fun q => c5 q.2))
              · refine And.intro (fun _ => ?_) (fun q => absurd rfl q)
                exact s_finding (d + 1) _ (hidx 1 1 rfl (by omega) rfl (by omega) (fun q => q.elim c1 c2) c3 (fun q => c4 q.1))
            · have c3 : ¬ σ 50 1 = σ 50 1 := c3
              rw [(hH 1 (by omega)).1, zeq (by have := hB 1; unfold zr; omega) (by have := hB 1; unfold zr; omega)] at c3
              exact s_finding (d + 1) _ (hform 1 1 rfl (by omega) rfl (by omega) (fun q => q.elim c1 c2) c3)
      · refine ixi 1 4 (by omega) ?_
        refine ixi 2 4 (by omega) ?_
        refine s_isLost1 (d + 1) _ (hH 1 (by omega)).1 (by have := hB 1; unfold zr; omega) ?_
        by_cases c1 : B 0 1 = -1
        · rw [if_pos c1]
          refine And.intro (fun q => absurd q (by decide)) (fun _ => ?_)
          exact s_finding (d + 1) _ (hlost 1 2 rfl (by omega) rfl (by omega) (Or.inl c1))
        · rw [if_neg c1]
          refine And.intro (fun _ => ?_) (fun q => absurd rfl q)
          refine s_isLost2 (d + 1) _ (hH 2 (by omega)).1 (by have := hB 2; unfold zr; omega) ?_
          by_cases c2 : B 0 2 = -1
          · rw [if_pos c2]
            refine And.intro (fun q => absurd q (by decide)) (fun _ => ?_)
            exact s_finding (d + 1) _ (hlost 1 2 rfl (by omega) rfl (by omega) (Or.inr c2))
          · rw [if_neg c2]
            refine And.intro (fun _ => ?_) (fun q => absurd rfl q)
            refine And.intro (fun c3 => ?_) (fun c3 => ?_)
            · have c3 : σ 50 1 = σ 52 1 := c3
              rw [(hH 1 (by omega)).1, (hH 2 (by omega)).1, zeq (by have := hB 1; unfold zr; omega) (by have := hB 2; unfold zr; omega)] at c3
              refine s_holds1 (d + 1) _ (hH 1 (by omega)).2.1 (hA 1) hi hm (fun c4 => ?_) (fun c4 => ?_)
              · refine And.intro (fun q => absurd q (by decide)) (fun _ => ?_)
                refine s_holds2 (d + 1) _ (hH 2 (by omega)).2.1 (hA 2) hj hm (fun c5 => ?_) (fun c5 => ?_)
                · refine And.intro (fun q => absurd q (by decide)) (fun _ => ?_)
                  have hok := hok 1 2 rfl (by omega) rfl (by omega) (fun q => q.elim c1 c2) c3 ⟨c4, c5⟩
                  have a1 := hA 1
                  have a2 := hA 2
                  have b1 := c4.1
                  have b2 := c4.2.1
                  have b3 := c4.2.2.2
                  have b4 := c5.1
                  have b5 := c5.2.2.2
                  have e1 : (Int32.ofInt i).toNatClampNeg = i.toNat := zcl (by congr 1; omega) (by omega)
                  have e2 : (Int32.ofInt j).toNatClampNeg = j.toNat := zcl (by congr 1; omega) (by omega)
                  have e3 : (Int32.ofInt m).toNatClampNeg = m.toNat := zcl (by congr 1; omega) (by omega)
                  rw [← e1, ← e2, ← e3] at hok
                  refine And.intro (by rw [zlt0 hi]; omega) (And.intro (by rw [zlt0 hj]; omega) (And.intro (by rw [zlt0 hm]; omega) (And.intro ?_ (And.intro ?_ hok))))
                  · rw [e1, e3]
                    show i.toNat + m.toNat ≤ 60
                    omega
                  · rw [e2, e3]
                    show j.toNat + m.toNat ≤ 60
                    omega
                · refine And.intro (fun _ => ?_) (fun q => absurd rfl q)
                  exact s_finding (d + 1) _ (hidx 1 2 rfl (by omega) rfl (by omega) (fun q => q.elim c1 c2) c3 (fun q => c5 q.2))
              · refine And.intro (fun _ => ?_) (fun q => absurd rfl q)
                exact s_finding (d + 1) _ (hidx 1 2 rfl (by omega) rfl (by omega) (fun q => q.elim c1 c2) c3 (fun q => c4 q.1))
            · have c3 : ¬ σ 50 1 = σ 52 1 := c3
              rw [(hH 1 (by omega)).1, (hH 2 (by omega)).1, zeq (by have := hB 1; unfold zr; omega) (by have := hB 2; unfold zr; omega)] at c3
              exact s_finding (d + 1) _ (hform 1 2 rfl (by omega) rfl (by omega) (fun q => q.elim c1 c2) c3)
      · refine ixi 1 4 (by omega) ?_
        refine ixi 3 4 (by omega) ?_
        refine s_isLost1 (d + 1) _ (hH 1 (by omega)).1 (by have := hB 1; unfold zr; omega) ?_
        by_cases c1 : B 0 1 = -1
        · rw [if_pos c1]
          refine And.intro (fun q => absurd q (by decide)) (fun _ => ?_)
          exact s_finding (d + 1) _ (hlost 1 3 rfl (by omega) rfl (by omega) (Or.inl c1))
        · rw [if_neg c1]
          refine And.intro (fun _ => ?_) (fun q => absurd rfl q)
          refine s_isLost3 (d + 1) _ (hH 3 (by omega)).1 (by have := hB 3; unfold zr; omega) ?_
          by_cases c2 : B 0 3 = -1
          · rw [if_pos c2]
            refine And.intro (fun q => absurd q (by decide)) (fun _ => ?_)
            exact s_finding (d + 1) _ (hlost 1 3 rfl (by omega) rfl (by omega) (Or.inr c2))
          · rw [if_neg c2]
            refine And.intro (fun _ => ?_) (fun q => absurd rfl q)
            refine And.intro (fun c3 => ?_) (fun c3 => ?_)
            · have c3 : σ 50 1 = σ 54 1 := c3
              rw [(hH 1 (by omega)).1, (hH 3 (by omega)).1, zeq (by have := hB 1; unfold zr; omega) (by have := hB 3; unfold zr; omega)] at c3
              refine s_holds1 (d + 1) _ (hH 1 (by omega)).2.1 (hA 1) hi hm (fun c4 => ?_) (fun c4 => ?_)
              · refine And.intro (fun q => absurd q (by decide)) (fun _ => ?_)
                refine s_holds3 (d + 1) _ (hH 3 (by omega)).2.1 (hA 3) hj hm (fun c5 => ?_) (fun c5 => ?_)
                · refine And.intro (fun q => absurd q (by decide)) (fun _ => ?_)
                  have hok := hok 1 3 rfl (by omega) rfl (by omega) (fun q => q.elim c1 c2) c3 ⟨c4, c5⟩
                  have a1 := hA 1
                  have a2 := hA 3
                  have b1 := c4.1
                  have b2 := c4.2.1
                  have b3 := c4.2.2.2
                  have b4 := c5.1
                  have b5 := c5.2.2.2
                  have e1 : (Int32.ofInt i).toNatClampNeg = i.toNat := zcl (by congr 1; omega) (by omega)
                  have e2 : (Int32.ofInt j).toNatClampNeg = j.toNat := zcl (by congr 1; omega) (by omega)
                  have e3 : (Int32.ofInt m).toNatClampNeg = m.toNat := zcl (by congr 1; omega) (by omega)
                  rw [← e1, ← e2, ← e3] at hok
                  refine And.intro (by rw [zlt0 hi]; omega) (And.intro (by rw [zlt0 hj]; omega) (And.intro (by rw [zlt0 hm]; omega) (And.intro ?_ (And.intro ?_ hok))))
                  · rw [e1, e3]
                    show i.toNat + m.toNat ≤ 60
                    omega
                  · rw [e2, e3]
                    show j.toNat + m.toNat ≤ 60
                    omega
                · refine And.intro (fun _ => ?_) (fun q => absurd rfl q)
                  exact s_finding (d + 1) _ (hidx 1 3 rfl (by omega) rfl (by omega) (fun q => q.elim c1 c2) c3 (fun q => c5 q.2))
              · refine And.intro (fun _ => ?_) (fun q => absurd rfl q)
                exact s_finding (d + 1) _ (hidx 1 3 rfl (by omega) rfl (by omega) (fun q => q.elim c1 c2) c3 (fun q => c4 q.1))
            · have c3 : ¬ σ 50 1 = σ 54 1 := c3
              rw [(hH 1 (by omega)).1, (hH 3 (by omega)).1, zeq (by have := hB 1; unfold zr; omega) (by have := hB 3; unfold zr; omega)] at c3
              exact s_finding (d + 1) _ (hform 1 3 rfl (by omega) rfl (by omega) (fun q => q.elim c1 c2) c3)
      · refine ixi 2 4 (by omega) ?_
        refine ixi 0 4 (by omega) ?_
        refine s_isLost2 (d + 1) _ (hH 2 (by omega)).1 (by have := hB 2; unfold zr; omega) ?_
        by_cases c1 : B 0 2 = -1
        · rw [if_pos c1]
          refine And.intro (fun q => absurd q (by decide)) (fun _ => ?_)
          exact s_finding (d + 1) _ (hlost 2 0 rfl (by omega) rfl (by omega) (Or.inl c1))
        · rw [if_neg c1]
          refine And.intro (fun _ => ?_) (fun q => absurd rfl q)
          refine s_isLost0 (d + 1) _ (hH 0 (by omega)).1 (by have := hB 0; unfold zr; omega) ?_
          by_cases c2 : B 0 0 = -1
          · rw [if_pos c2]
            refine And.intro (fun q => absurd q (by decide)) (fun _ => ?_)
            exact s_finding (d + 1) _ (hlost 2 0 rfl (by omega) rfl (by omega) (Or.inr c2))
          · rw [if_neg c2]
            refine And.intro (fun _ => ?_) (fun q => absurd rfl q)
            refine And.intro (fun c3 => ?_) (fun c3 => ?_)
            · have c3 : σ 52 1 = σ 48 1 := c3
              rw [(hH 2 (by omega)).1, (hH 0 (by omega)).1, zeq (by have := hB 2; unfold zr; omega) (by have := hB 0; unfold zr; omega)] at c3
              refine s_holds2 (d + 1) _ (hH 2 (by omega)).2.1 (hA 2) hi hm (fun c4 => ?_) (fun c4 => ?_)
              · refine And.intro (fun q => absurd q (by decide)) (fun _ => ?_)
                refine s_holds0 (d + 1) _ (hH 0 (by omega)).2.1 (hA 0) hj hm (fun c5 => ?_) (fun c5 => ?_)
                · refine And.intro (fun q => absurd q (by decide)) (fun _ => ?_)
                  have hok := hok 2 0 rfl (by omega) rfl (by omega) (fun q => q.elim c1 c2) c3 ⟨c4, c5⟩
                  have a1 := hA 2
                  have a2 := hA 0
                  have b1 := c4.1
                  have b2 := c4.2.1
                  have b3 := c4.2.2.2
                  have b4 := c5.1
                  have b5 := c5.2.2.2
                  have e1 : (Int32.ofInt i).toNatClampNeg = i.toNat := zcl (by congr 1; omega) (by omega)
                  have e2 : (Int32.ofInt j).toNatClampNeg = j.toNat := zcl (by congr 1; omega) (by omega)
                  have e3 : (Int32.ofInt m).toNatClampNeg = m.toNat := zcl (by congr 1; omega) (by omega)
                  rw [← e1, ← e2, ← e3] at hok
                  refine And.intro (by rw [zlt0 hi]; omega) (And.intro (by rw [zlt0 hj]; omega) (And.intro (by rw [zlt0 hm]; omega) (And.intro ?_ (And.intro ?_ hok))))
                  · rw [e1, e3]
                    show i.toNat + m.toNat ≤ 60
                    omega
                  · rw [e2, e3]
                    show j.toNat + m.toNat ≤ 60
                    omega
                · refine And.intro (fun _ => ?_) (fun q => absurd rfl q)
                  exact s_finding (d + 1) _ (hidx 2 0 rfl (by omega) rfl (by omega) (fun q => q.elim c1 c2) c3 (fun q => c5 q.2))
              · refine And.intro (fun _ => ?_) (fun q => absurd rfl q)
                exact s_finding (d + 1) _ (hidx 2 0 rfl (by omega) rfl (by omega) (fun q => q.elim c1 c2) c3 (fun q => c4 q.1))
            · have c3 : ¬ σ 52 1 = σ 48 1 := c3
              rw [(hH 2 (by omega)).1, (hH 0 (by omega)).1, zeq (by have := hB 2; unfold zr; omega) (by have := hB 0; unfold zr; omega)] at c3
              exact s_finding (d + 1) _ (hform 2 0 rfl (by omega) rfl (by omega) (fun q => q.elim c1 c2) c3)
      · refine ixi 2 4 (by omega) ?_
        refine ixi 1 4 (by omega) ?_
        refine s_isLost2 (d + 1) _ (hH 2 (by omega)).1 (by have := hB 2; unfold zr; omega) ?_
        by_cases c1 : B 0 2 = -1
        · rw [if_pos c1]
          refine And.intro (fun q => absurd q (by decide)) (fun _ => ?_)
          exact s_finding (d + 1) _ (hlost 2 1 rfl (by omega) rfl (by omega) (Or.inl c1))
        · rw [if_neg c1]
          refine And.intro (fun _ => ?_) (fun q => absurd rfl q)
          refine s_isLost1 (d + 1) _ (hH 1 (by omega)).1 (by have := hB 1; unfold zr; omega) ?_
          by_cases c2 : B 0 1 = -1
          · rw [if_pos c2]
            refine And.intro (fun q => absurd q (by decide)) (fun _ => ?_)
            exact s_finding (d + 1) _ (hlost 2 1 rfl (by omega) rfl (by omega) (Or.inr c2))
          · rw [if_neg c2]
            refine And.intro (fun _ => ?_) (fun q => absurd rfl q)
            refine And.intro (fun c3 => ?_) (fun c3 => ?_)
            · have c3 : σ 52 1 = σ 50 1 := c3
              rw [(hH 2 (by omega)).1, (hH 1 (by omega)).1, zeq (by have := hB 2; unfold zr; omega) (by have := hB 1; unfold zr; omega)] at c3
              refine s_holds2 (d + 1) _ (hH 2 (by omega)).2.1 (hA 2) hi hm (fun c4 => ?_) (fun c4 => ?_)
              · refine And.intro (fun q => absurd q (by decide)) (fun _ => ?_)
                refine s_holds1 (d + 1) _ (hH 1 (by omega)).2.1 (hA 1) hj hm (fun c5 => ?_) (fun c5 => ?_)
                · refine And.intro (fun q => absurd q (by decide)) (fun _ => ?_)
                  have hok := hok 2 1 rfl (by omega) rfl (by omega) (fun q => q.elim c1 c2) c3 ⟨c4, c5⟩
                  have a1 := hA 2
                  have a2 := hA 1
                  have b1 := c4.1
                  have b2 := c4.2.1
                  have b3 := c4.2.2.2
                  have b4 := c5.1
                  have b5 := c5.2.2.2
                  have e1 : (Int32.ofInt i).toNatClampNeg = i.toNat := zcl (by congr 1; omega) (by omega)
                  have e2 : (Int32.ofInt j).toNatClampNeg = j.toNat := zcl (by congr 1; omega) (by omega)
                  have e3 : (Int32.ofInt m).toNatClampNeg = m.toNat := zcl (by congr 1; omega) (by omega)
                  rw [← e1, ← e2, ← e3] at hok
                  refine And.intro (by rw [zlt0 hi]; omega) (And.intro (by rw [zlt0 hj]; omega) (And.intro (by rw [zlt0 hm]; omega) (And.intro ?_ (And.intro ?_ hok))))
                  · rw [e1, e3]
                    show i.toNat + m.toNat ≤ 60
                    omega
                  · rw [e2, e3]
                    show j.toNat + m.toNat ≤ 60
                    omega
                · refine And.intro (fun _ => ?_) (fun q => absurd rfl q)
                  exact s_finding (d + 1) _ (hidx 2 1 rfl (by omega) rfl (by omega) (fun q => q.elim c1 c2) c3 (fun q => c5 q.2))
              · refine And.intro (fun _ => ?_) (fun q => absurd rfl q)
                exact s_finding (d + 1) _ (hidx 2 1 rfl (by omega) rfl (by omega) (fun q => q.elim c1 c2) c3 (fun q => c4 q.1))
            · have c3 : ¬ σ 52 1 = σ 50 1 := c3
              rw [(hH 2 (by omega)).1, (hH 1 (by omega)).1, zeq (by have := hB 2; unfold zr; omega) (by have := hB 1; unfold zr; omega)] at c3
              exact s_finding (d + 1) _ (hform 2 1 rfl (by omega) rfl (by omega) (fun q => q.elim c1 c2) c3)
      · refine ixi 2 4 (by omega) ?_
        refine ixi 2 4 (by omega) ?_
        refine s_isLost2 (d + 1) _ (hH 2 (by omega)).1 (by have := hB 2; unfold zr; omega) ?_
        by_cases c1 : B 0 2 = -1
        · rw [if_pos c1]
          refine And.intro (fun q => absurd q (by decide)) (fun _ => ?_)
          exact s_finding (d + 1) _ (hlost 2 2 rfl (by omega) rfl (by omega) (Or.inl c1))
        · rw [if_neg c1]
          refine And.intro (fun _ => ?_) (fun q => absurd rfl q)
          refine s_isLost2 (d + 1) _ (hH 2 (by omega)).1 (by have := hB 2; unfold zr; omega) ?_
          by_cases c2 : B 0 2 = -1
          · rw [if_pos c2]
            refine And.intro (fun q => absurd q (by decide)) (fun _ => ?_)
            exact s_finding (d + 1) _ (hlost 2 2 rfl (by omega) rfl (by omega) (Or.inr c2))
          · rw [if_neg c2]
            refine And.intro (fun _ => ?_) (fun q => absurd rfl q)
            refine And.intro (fun c3 => ?_) (fun c3 => ?_)
            · have c3 : σ 52 1 = σ 52 1 := c3
              rw [(hH 2 (by omega)).1, zeq (by have := hB 2; unfold zr; omega) (by have := hB 2; unfold zr; omega)] at c3
              refine s_holds2 (d + 1) _ (hH 2 (by omega)).2.1 (hA 2) hi hm (fun c4 => ?_) (fun c4 => ?_)
              · refine And.intro (fun q => absurd q (by decide)) (fun _ => ?_)
                refine s_holds2 (d + 1) _ (hH 2 (by omega)).2.1 (hA 2) hj hm (fun c5 => ?_) (fun c5 => ?_)
                · refine And.intro (fun q => absurd q (by decide)) (fun _ => ?_)
                  have hok := hok 2 2 rfl (by omega) rfl (by omega) (fun q => q.elim c1 c2) c3 ⟨c4, c5⟩
                  have a1 := hA 2
                  have a2 := hA 2
                  have b1 := c4.1
                  have b2 := c4.2.1
                  have b3 := c4.2.2.2
                  have b4 := c5.1
                  have b5 := c5.2.2.2
                  have e1 : (Int32.ofInt i).toNatClampNeg = i.toNat := zcl (by congr 1; omega) (by omega)
                  have e2 : (Int32.ofInt j).toNatClampNeg = j.toNat := zcl (by congr 1; omega) (by omega)
                  have e3 : (Int32.ofInt m).toNatClampNeg = m.toNat := zcl (by congr 1; omega) (by omega)
                  rw [← e1, ← e2, ← e3] at hok
                  refine And.intro (by rw [zlt0 hi]; omega) (And.intro (by rw [zlt0 hj]; omega) (And.intro (by rw [zlt0 hm]; omega) (And.intro ?_ (And.intro ?_ hok))))
                  · rw [e1, e3]
                    show i.toNat + m.toNat ≤ 60
                    omega
                  · rw [e2, e3]
                    show j.toNat + m.toNat ≤ 60
                    omega
                · refine And.intro (fun _ => ?_) (fun q => absurd rfl q)
                  exact s_finding (d + 1) _ (hidx 2 2 rfl (by omega) rfl (by omega) (fun q => q.elim c1 c2) c3 (fun q => c5 q.2))
              · refine And.intro (fun _ => ?_) (fun q => absurd rfl q)
                exact s_finding (d + 1) _ (hidx 2 2 rfl (by omega) rfl (by omega) (fun q => q.elim c1 c2) c3 (fun q => c4 q.1))
            · have c3 : ¬ σ 52 1 = σ 52 1 := c3
              rw [(hH 2 (by omega)).1, zeq (by have := hB 2; unfold zr; omega) (by have := hB 2; unfold zr; omega)] at c3
              exact s_finding (d + 1) _ (hform 2 2 rfl (by omega) rfl (by omega) (fun q => q.elim c1 c2) c3)
      · refine ixi 2 4 (by omega) ?_
        refine ixi 3 4 (by omega) ?_
        refine s_isLost2 (d + 1) _ (hH 2 (by omega)).1 (by have := hB 2; unfold zr; omega) ?_
        by_cases c1 : B 0 2 = -1
        · rw [if_pos c1]
          refine And.intro (fun q => absurd q (by decide)) (fun _ => ?_)
          exact s_finding (d + 1) _ (hlost 2 3 rfl (by omega) rfl (by omega) (Or.inl c1))
        · rw [if_neg c1]
          refine And.intro (fun _ => ?_) (fun q => absurd rfl q)
          refine s_isLost3 (d + 1) _ (hH 3 (by omega)).1 (by have := hB 3; unfold zr; omega) ?_
          by_cases c2 : B 0 3 = -1
          · rw [if_pos c2]
            refine And.intro (fun q => absurd q (by decide)) (fun _ => ?_)
            exact s_finding (d + 1) _ (hlost 2 3 rfl (by omega) rfl (by omega) (Or.inr c2))
          · rw [if_neg c2]
            refine And.intro (fun _ => ?_) (fun q => absurd rfl q)
            refine And.intro (fun c3 => ?_) (fun c3 => ?_)
            · have c3 : σ 52 1 = σ 54 1 := c3
              rw [(hH 2 (by omega)).1, (hH 3 (by omega)).1, zeq (by have := hB 2; unfold zr; omega) (by have := hB 3; unfold zr; omega)] at c3
              refine s_holds2 (d + 1) _ (hH 2 (by omega)).2.1 (hA 2) hi hm (fun c4 => ?_) (fun c4 => ?_)
              · refine And.intro (fun q => absurd q (by decide)) (fun _ => ?_)
                refine s_holds3 (d + 1) _ (hH 3 (by omega)).2.1 (hA 3) hj hm (fun c5 => ?_) (fun c5 => ?_)
                · refine And.intro (fun q => absurd q (by decide)) (fun _ => ?_)
                  have hok := hok 2 3 rfl (by omega) rfl (by omega) (fun q => q.elim c1 c2) c3 ⟨c4, c5⟩
                  have a1 := hA 2
                  have a2 := hA 3
                  have b1 := c4.1
                  have b2 := c4.2.1
                  have b3 := c4.2.2.2
                  have b4 := c5.1
                  have b5 := c5.2.2.2
                  have e1 : (Int32.ofInt i).toNatClampNeg = i.toNat := zcl (by congr 1; omega) (by omega)
                  have e2 : (Int32.ofInt j).toNatClampNeg = j.toNat := zcl (by congr 1; omega) (by omega)
                  have e3 : (Int32.ofInt m).toNatClampNeg = m.toNat := zcl (by congr 1; omega) (by omega)
                  rw [← e1, ← e2, ← e3] at hok
                  refine And.intro (by rw [zlt0 hi]; omega) (And.intro (by rw [zlt0 hj]; omega) (And.intro (by rw [zlt0 hm]; omega) (And.intro ?_ (And.intro ?_ hok))))
                  · rw [e1, e3]
                    show i.toNat + m.toNat ≤ 60
                    omega
                  · rw [e2, e3]
                    show j.toNat + m.toNat ≤ 60
                    omega
                · refine And.intro (fun _ => ?_) (fun q => absurd rfl q)
                  exact s_finding (d + 1) _ (hidx 2 3 rfl (by omega) rfl (by omega) (fun q => q.elim c1 c2) c3 (fun q => c5 q.2))
              · refine And.intro (fun _ => ?_) (fun q => absurd rfl q)
                exact s_finding (d + 1) _ (hidx 2 3 rfl (by omega) rfl (by omega) (fun q => q.elim c1 c2) c3 (fun q => c4 q.1))
            · have c3 : ¬ σ 52 1 = σ 54 1 := c3
              rw [(hH 2 (by omega)).1, (hH 3 (by omega)).1, zeq (by have := hB 2; unfold zr; omega) (by have := hB 3; unfold zr; omega)] at c3
              exact s_finding (d + 1) _ (hform 2 3 rfl (by omega) rfl (by omega) (fun q => q.elim c1 c2) c3)
      · refine ixi 3 4 (by omega) ?_
        refine ixi 0 4 (by omega) ?_
        refine s_isLost3 (d + 1) _ (hH 3 (by omega)).1 (by have := hB 3; unfold zr; omega) ?_
        by_cases c1 : B 0 3 = -1
        · rw [if_pos c1]
          refine And.intro (fun q => absurd q (by decide)) (fun _ => ?_)
          exact s_finding (d + 1) _ (hlost 3 0 rfl (by omega) rfl (by omega) (Or.inl c1))
        · rw [if_neg c1]
          refine And.intro (fun _ => ?_) (fun q => absurd rfl q)
          refine s_isLost0 (d + 1) _ (hH 0 (by omega)).1 (by have := hB 0; unfold zr; omega) ?_
          by_cases c2 : B 0 0 = -1
          · rw [if_pos c2]
            refine And.intro (fun q => absurd q (by decide)) (fun _ => ?_)
            exact s_finding (d + 1) _ (hlost 3 0 rfl (by omega) rfl (by omega) (Or.inr c2))
          · rw [if_neg c2]
            refine And.intro (fun _ => ?_) (fun q => absurd rfl q)
            refine And.intro (fun c3 => ?_) (fun c3 => ?_)
            · have c3 : σ 54 1 = σ 48 1 := c3
              rw [(hH 3 (by omega)).1, (hH 0 (by omega)).1, zeq (by have := hB 3; unfold zr; omega) (by have := hB 0; unfold zr; omega)] at c3
              refine s_holds3 (d + 1) _ (hH 3 (by omega)).2.1 (hA 3) hi hm (fun c4 => ?_) (fun c4 => ?_)
              · refine And.intro (fun q => absurd q (by decide)) (fun _ => ?_)
                refine s_holds0 (d + 1) _ (hH 0 (by omega)).2.1 (hA 0) hj hm (fun c5 => ?_) (fun c5 => ?_)
                · refine And.intro (fun q => absurd q (by decide)) (fun _ => ?_)
                  have hok := hok 3 0 rfl (by omega) rfl (by omega) (fun q => q.elim c1 c2) c3 ⟨c4, c5⟩
                  have a1 := hA 3
                  have a2 := hA 0
                  have b1 := c4.1
                  have b2 := c4.2.1
                  have b3 := c4.2.2.2
                  have b4 := c5.1
                  have b5 := c5.2.2.2
                  have e1 : (Int32.ofInt i).toNatClampNeg = i.toNat := zcl (by congr 1; omega) (by omega)
                  have e2 : (Int32.ofInt j).toNatClampNeg = j.toNat := zcl (by congr 1; omega) (by omega)
                  have e3 : (Int32.ofInt m).toNatClampNeg = m.toNat := zcl (by congr 1; omega) (by omega)
                  rw [← e1, ← e2, ← e3] at hok
                  refine And.intro (by rw [zlt0 hi]; omega) (And.intro (by rw [zlt0 hj]; omega) (And.intro (by rw [zlt0 hm]; omega) (And.intro ?_ (And.intro ?_ hok))))
                  · rw [e1, e3]
                    show i.toNat + m.toNat ≤ 60
                    omega
                  · rw [e2, e3]
                    show j.toNat + m.toNat ≤ 60
                    omega
                · refine And.intro (fun _ => ?_) (fun q => absurd rfl q)
                  exact s_finding (d + 1) _ (hidx 3 0 rfl (by omega) rfl (by omega) (fun q => q.elim c1 c2) c3 (fun q => c5 q.2))
              · refine And.intro (fun _ => ?_) (fun q => absurd rfl q)
                exact s_finding (d + 1) _ (hidx 3 0 rfl (by omega) rfl (by omega) (fun q => q.elim c1 c2) c3 (fun q => c4 q.1))
            · have c3 : ¬ σ 54 1 = σ 48 1 := c3
              rw [(hH 3 (by omega)).1, (hH 0 (by omega)).1, zeq (by have := hB 3; unfold zr; omega) (by have := hB 0; unfold zr; omega)] at c3
              exact s_finding (d + 1) _ (hform 3 0 rfl (by omega) rfl (by omega) (fun q => q.elim c1 c2) c3)
      · refine ixi 3 4 (by omega) ?_
        refine ixi 1 4 (by omega) ?_
        refine s_isLost3 (d + 1) _ (hH 3 (by omega)).1 (by have := hB 3; unfold zr; omega) ?_
        by_cases c1 : B 0 3 = -1
        · rw [if_pos c1]
          refine And.intro (fun q => absurd q (by decide)) (fun _ => ?_)
          exact s_finding (d + 1) _ (hlost 3 1 rfl (by omega) rfl (by omega) (Or.inl c1))
        · rw [if_neg c1]
          refine And.intro (fun _ => ?_) (fun q => absurd rfl q)
          refine s_isLost1 (d + 1) _ (hH 1 (by omega)).1 (by have := hB 1; unfold zr; omega) ?_
          by_cases c2 : B 0 1 = -1
          · rw [if_pos c2]
            refine And.intro (fun q => absurd q (by decide)) (fun _ => ?_)
            exact s_finding (d + 1) _ (hlost 3 1 rfl (by omega) rfl (by omega) (Or.inr c2))
          · rw [if_neg c2]
            refine And.intro (fun _ => ?_) (fun q => absurd rfl q)
            refine And.intro (fun c3 => ?_) (fun c3 => ?_)
            · have c3 : σ 54 1 = σ 50 1 := c3
              rw [(hH 3 (by omega)).1, (hH 1 (by omega)).1, zeq (by have := hB 3; unfold zr; omega) (by have := hB 1; unfold zr; omega)] at c3
              refine s_holds3 (d + 1) _ (hH 3 (by omega)).2.1 (hA 3) hi hm (fun c4 => ?_) (fun c4 => ?_)
              · refine And.intro (fun q => absurd q (by decide)) (fun _ => ?_)
                refine s_holds1 (d + 1) _ (hH 1 (by omega)).2.1 (hA 1) hj hm (fun c5 => ?_) (fun c5 => ?_)
                · refine And.intro (fun q => absurd q (by decide)) (fun _ => ?_)
                  have hok := hok 3 1 rfl (by omega) rfl (by omega) (fun q => q.elim c1 c2) c3 ⟨c4, c5⟩
                  have a1 := hA 3
                  have a2 := hA 1
                  have b1 := c4.1
                  have b2 := c4.2.1
                  have b3 := c4.2.2.2
                  have b4 := c5.1
                  have b5 := c5.2.2.2
                  have e1 : (Int32.ofInt i).toNatClampNeg = i.toNat := zcl (by congr 1; omega) (by omega)
                  have e2 : (Int32.ofInt j).toNatClampNeg = j.toNat := zcl (by congr 1; omega) (by omega)
                  have e3 : (Int32.ofInt m).toNatClampNeg = m.toNat := zcl (by congr 1; omega) (by omega)
                  rw [← e1, ← e2, ← e3] at hok
                  refine And.intro (by rw [zlt0 hi]; omega) (And.intro (by rw [zlt0 hj]; omega) (And.intro (by rw [zlt0 hm]; omega) (And.intro ?_ (And.intro ?_ hok))))
                  · rw [e1, e3]
                    show i.toNat + m.toNat ≤ 60
                    omega
                  · rw [e2, e3]
                    show j.toNat + m.toNat ≤ 60
                    omega
                · refine And.intro (fun _ => ?_) (fun q => absurd rfl q)
                  exact s_finding (d + 1) _ (hidx 3 1 rfl (by omega) rfl (by omega) (fun q => q.elim c1 c2) c3 (fun q => c5 q.2))
              · refine And.intro (fun _ => ?_) (fun q => absurd rfl q)
                exact s_finding (d + 1) _ (hidx 3 1 rfl (by omega) rfl (by omega) (fun q => q.elim c1 c2) c3 (fun q => c4 q.1))
            · have c3 : ¬ σ 54 1 = σ 50 1 := c3
              rw [(hH 3 (by omega)).1, (hH 1 (by omega)).1, zeq (by have := hB 3; unfold zr; omega) (by have := hB 1; unfold zr; omega)] at c3
              exact s_finding (d + 1) _ (hform 3 1 rfl (by omega) rfl (by omega) (fun q => q.elim c1 c2) c3)
      · refine ixi 3 4 (by omega) ?_
        refine ixi 2 4 (by omega) ?_
        refine s_isLost3 (d + 1) _ (hH 3 (by omega)).1 (by have := hB 3; unfold zr; omega) ?_
        by_cases c1 : B 0 3 = -1
        · rw [if_pos c1]
          refine And.intro (fun q => absurd q (by decide)) (fun _ => ?_)
          exact s_finding (d + 1) _ (hlost 3 2 rfl (by omega) rfl (by omega) (Or.inl c1))
        · rw [if_neg c1]
          refine And.intro (fun _ => ?_) (fun q => absurd rfl q)
          refine s_isLost2 (d + 1) _ (hH 2 (by omega)).1 (by have := hB 2; unfold zr; omega) ?_
          by_cases c2 : B 0 2 = -1
          · rw [if_pos c2]
            refine And.intro (fun q => absurd q (by decide)) (fun _ => ?_)
            exact s_finding (d + 1) _ (hlost 3 2 rfl (by omega) rfl (by omega) (Or.inr c2))
          · rw [if_neg c2]
            refine And.intro (fun _ => ?_) (fun q => absurd rfl q)
            refine And.intro (fun c3 => ?_) (fun c3 => ?_)
            · have c3 : σ 54 1 = σ 52 1 := c3
              rw [(hH 3 (by omega)).1, (hH 2 (by omega)).1, zeq (by have := hB 3; unfold zr; omega) (by have := hB 2; unfold zr; omega)] at c3
              refine s_holds3 (d + 1) _ (hH 3 (by omega)).2.1 (hA 3) hi hm (fun c4 => ?_) (fun c4 => ?_)
              · refine And.intro (fun q => absurd q (by decide)) (fun _ => ?_)
                refine s_holds2 (d + 1) _ (hH 2 (by omega)).2.1 (hA 2) hj hm (fun c5 => ?_) (fun c5 => ?_)
                · refine And.intro (fun q => absurd q (by decide)) (fun _ => ?_)
                  have hok := hok 3 2 rfl (by omega) rfl (by omega) (fun q => q.elim c1 c2) c3 ⟨c4, c5⟩
                  have a1 := hA 3
                  have a2 := hA 2
                  have b1 := c4.1
                  have b2 := c4.2.1
                  have b3 := c4.2.2.2
                  have b4 := c5.1
                  have b5 := c5.2.2.2
                  have e1 : (Int32.ofInt i).toNatClampNeg = i.toNat := zcl (by congr 1; omega) (by omega)
                  have e2 : (Int32.ofInt j).toNatClampNeg = j.toNat := zcl (by congr 1; omega) (by omega)
                  have e3 : (Int32.ofInt m).toNatClampNeg = m.toNat := zcl (by congr 1; omega) (by omega)
                  rw [← e1, ← e2, ← e3] at hok
                  refine And.intro (by rw [zlt0 hi]; omega) (And.intro (by rw [zlt0 hj]; omega) (And.intro (by rw [zlt0 hm]; omega) (And.intro ?_ (And.intro ?_ hok))))
                  · rw [e1, e3]
                    show i.toNat + m.toNat ≤ 60
                    omega
                  · rw [e2, e3]
                    show j.toNat + m.toNat ≤ 60
                    omega
                · refine And.intro (fun _ => ?_) (fun q => absurd rfl q)
                  exact s_finding (d + 1) _ (hidx 3 2 rfl (by omega) rfl (by omega) (fun q => q.elim c1 c2) c3 (fun q => c5 q.2))
              · refine And.intro (fun _ => ?_) (fun q => absurd rfl q)
                exact s_finding (d + 1) _ (hidx 3 2 rfl (by omega) rfl (by omega) (fun q => q.elim c1 c2) c3 (fun q => c4 q.1))
            · have c3 : ¬ σ 54 1 = σ 52 1 := c3
              rw [(hH 3 (by omega)).1, (hH 2 (by omega)).1, zeq (by have := hB 3; unfold zr; omega) (by have := hB 2; unfold zr; omega)] at c3
              exact s_finding (d + 1) _ (hform 3 2 rfl (by omega) rfl (by omega) (fun q => q.elim c1 c2) c3)
      · refine ixi 3 4 (by omega) ?_
        refine ixi 3 4 (by omega) ?_
        refine s_isLost3 (d + 1) _ (hH 3 (by omega)).1 (by have := hB 3; unfold zr; omega) ?_
        by_cases c1 : B 0 3 = -1
        · rw [if_pos c1]
          refine And.intro (fun q => absurd q (by decide)) (fun _ => ?_)
          exact s_finding (d + 1) _ (hlost 3 3 rfl (by omega) rfl (by omega) (Or.inl c1))
        · rw [if_neg c1]
          refine And.intro (fun _ => ?_) (fun q => absurd rfl q)
          refine s_isLost3 (d + 1) _ (hH 3 (by omega)).1 (by have := hB 3; unfold zr; omega) ?_
          by_cases c2 : B 0 3 = -1
          · rw [if_pos c2]
            refine And.intro (fun q => absurd q (by decide)) (fun _ => ?_)
            exact s_finding (d + 1) _ (hlost 3 3 rfl (by omega) rfl (by omega) (Or.inr c2))
          · rw [if_neg c2]
            refine And.intro (fun _ => ?_) (fun q => absurd rfl q)
            refine And.intro (fun c3 => ?_) (fun c3 => ?_)
            · have c3 : σ 54 1 = σ 54 1 := c3
              rw [(hH 3 (by omega)).1, zeq (by have := hB 3; unfold zr; omega) (by have := hB 3; unfold zr; omega)] at c3
              refine s_holds3 (d + 1) _ (hH 3 (by omega)).2.1 (hA 3) hi hm (fun c4 => ?_) (fun c4 => ?_)
              · refine And.intro (fun q => absurd q (by decide)) (fun _ => ?_)
                refine s_holds3 (d + 1) _ (hH 3 (by omega)).2.1 (hA 3) hj hm (fun c5 => ?_) (fun c5 => ?_)
                · refine And.intro (fun q => absurd q (by decide)) (fun _ => ?_)
                  have hok := hok 3 3 rfl (by omega) rfl (by omega) (fun q => q.elim c1 c2) c3 ⟨c4, c5⟩
                  have a1 := hA 3
                  have a2 := hA 3
                  have b1 := c4.1
                  have b2 := c4.2.1
                  have b3 := c4.2.2.2
                  have b4 := c5.1
                  have b5 := c5.2.2.2
                  have e1 : (Int32.ofInt i).toNatClampNeg = i.toNat := zcl (by congr 1; omega) (by omega)
                  have e2 : (Int32.ofInt j).toNatClampNeg = j.toNat := zcl (by congr 1; omega) (by omega)
                  have e3 : (Int32.ofInt m).toNatClampNeg = m.toNat := zcl (by congr 1; omega) (by omega)
                  rw [← e1, ← e2, ← e3] at hok
                  refine And.intro (by rw [zlt0 hi]; omega) (And.intro (by rw [zlt0 hj]; omega) (And.intro (by rw [zlt0 hm]; omega) (And.intro ?_ (And.intro ?_ hok))))
                  · rw [e1, e3]
                    show i.toNat + m.toNat ≤ 60
                    omega
                  · rw [e2, e3]
                    show j.toNat + m.toNat ≤ 60
                    omega
                · refine And.intro (fun _ => ?_) (fun q => absurd rfl q)
                  exact s_finding (d + 1) _ (hidx 3 3 rfl (by omega) rfl (by omega) (fun q => q.elim c1 c2) c3 (fun q => c5 q.2))
              · refine And.intro (fun _ => ?_) (fun q => absurd rfl q)
                exact s_finding (d + 1) _ (hidx 3 3 rfl (by omega) rfl (by omega) (fun q => q.elim c1 c2) c3 (fun q => c4 q.1))
            · have c3 : ¬ σ 54 1 = σ 54 1 := c3
              rw [(hH 3 (by omega)).1, zeq (by have := hB 3; unfold zr; omega) (by have := hB 3; unfold zr; omega)] at c3
              exact s_finding (d + 1) _ (hform 3 3 rfl (by omega) rfl (by omega) (fun q => q.elim c1 c2) c3)
    · rw [if_neg cy]
      exact And.intro (fun _ => hbad (fun q => cy q.2)) (fun q => absurd rfl q)
  · rw [if_neg c]
    exact And.intro (fun _ => hbad (fun q => c q.1)) (fun q => absurd rfl q)
end SP
end
section
/-! longs as whole numbers; lowest terms: the class -/
def yr (a : Int) : Prop := -9223372036854775808 ≤ a ∧ a < 9223372036854775808
theorem yadd (a b : Int) : Int64.ofInt a + Int64.ofInt b = Int64.ofInt (a + b) := (Int64.ofInt_add a b).symm
theorem ysub (a b : Int) : Int64.ofInt a - Int64.ofInt b = Int64.ofInt (a - b) := (Int64.ofInt_sub a b).symm
theorem ymul (a b : Int) : Int64.ofInt a * Int64.ofInt b = Int64.ofInt (a * b) := (Int64.ofInt_mul a b).symm
theorem yneg (a : Int) : -Int64.ofInt a = Int64.ofInt (-a) := (Int64.ofInt_neg a).symm
theorem y0 : (0 : Int64) = Int64.ofInt 0 := rfl
theorem yto {a : Int} (h : yr a) : (Int64.ofInt a).toInt = a := Int64.toInt_ofInt_of_le h.1 h.2
theorem ylt {a b : Int} (ha : yr a) (hb : yr b) : Int64.ofInt a < Int64.ofInt b ↔ a < b := by rw [Int64.lt_iff_toInt_lt, yto ha, yto hb]
theorem yeq {a b : Int} (ha : yr a) (hb : yr b) : Int64.ofInt a = Int64.ofInt b ↔ a = b := by rw [← Int64.toInt_inj, yto ha, yto hb]
theorem yofz {a : Int} (h : zr a) : (Int32.ofInt a).toInt64 = Int64.ofInt a := by
  rw [← Int64.ofInt_int32ToInt, zI_to h]
theorem ytdiv {a b : Int} (ha : yr a) (hb : yr b) : Int64.ofInt a / Int64.ofInt b = Int64.ofInt (a.tdiv b) := by
  have e1 : Int64.minValue.toInt = -9223372036854775808 := by decide
  have e2 : Int64.maxValue.toInt = 9223372036854775807 := by decide
  unfold yr at ha hb
  rw [Int64.ofInt_tdiv (by omega) (by omega) (by omega) (by omega)]
theorem yrem {a b : Nat} (ha : a < 9223372036854775808) (hb : b < 9223372036854775808) : Int64.ofInt (a : Int) - Int64.ofInt (a : Int) / Int64.ofInt (b : Int) * Int64.ofInt (b : Int) = Int64.ofInt ((a % b : Nat) : Int) := by
  rw [ytdiv (by unfold yr; omega) (by unfold yr; omega), ymul, ysub]
  congr 1
  rw [Int.tdiv_eq_ediv_of_nonneg (by omega), Int.natCast_emod, Int.emod_def, Int.mul_comm]
theorem yabs {a : Int} (h1 : -9223372036854775808 < a) (h2 : a < 9223372036854775808) : (if 0 < Int64.ofInt a then Int64.ofInt a else -Int64.ofInt a) = Int64.ofInt (a.natAbs : Int) := by
  rw [y0]
  split
  · next c1 =>
    rw [ylt (by unfold yr; omega) ⟨by omega, h2⟩] at c1
    rw [show ((a.natAbs : Nat) : Int) = a by omega]
  · next c1 =>
    rw [ylt (by unfold yr; omega) ⟨by omega, h2⟩] at c1
    rw [yneg, show ((a.natAbs : Nat) : Int) = -a by omega]
theorem lgc0 {a : Int} (h : yr a) : lg_cmp (Int64.ofInt a) (Int64.ofInt 0) = 0 ↔ a = 0 := by
  unfold lg_cmp
  have e0 : yr 0 := by unfold yr; omega
  split
  · next c1 =>
    rw [gt_iff_lt, ylt e0 h] at c1
    constructor
    · intro q
      exact absurd q (by decide)
    · omega
  · split
    · next c2 =>
      rw [yeq h e0] at c2
      simp [c2]
    · next c2 =>
      rw [yeq h e0] at c2
      constructor
      · intro q
        exact absurd q (by decide)
      · omega
/-- a fraction's two parts in lowest terms -/
def ltA (a : Int) (b : Nat) : Int := a.tdiv (Nat.gcd a.natAbs b : Int)
def ltB (a : Int) (b : Nat) : Int := ((b / Nat.gcd a.natAbs b : Nat) : Int)
section LT
variable {M : am_M}
set_option maxRecDepth 100000 in
theorem s_gcd_loop (d : Nat) (Q : am_Q) {a b : Int64} : ∀ (m x y k : Nat) (u v : Value), u.category = 1 ∨ True → x < 9223372036854775808 → y < 9223372036854775808 → y < 2 ^ m → k + 2 * m < 100 → Q (some (.long (Int64.ofInt (Nat.gcd x y : Int)))) M →
    am_wp (am_d d) T_X9_commonDivisor Q (9, [.long a, .null, .long b, .null, .long (Int64.ofInt (x : Int)), .null, .long (Int64.ofInt (y : Int)), .null, .int (Int32.ofInt (k : Int)), u, .null], [], 0, 0) M := by
  intro m
  induction m with
  | zero =>
    intro x y k u v hu hx hy hm hk h
    have hy0 : y = 0 := by omega
    subst hy0
    rw [Nat.gcd_zero_right] at h
    refine am_wp_go (am_d_cm _) (fun pc => Nat.beq pc 9) 60 ?_
    refine And.intro (fun c1 => ?_) (fun c1 => ?_)
    · rw [zle (by unfold zr; omega) (by unfold zr; omega)] at c1
      omega
    · refine And.intro (fun c2 => h) (fun c2 => absurd ?_ c2)
      rfl
  | succ m ih =>
    intro x y k u v hu hx hy hm hk h
    refine am_wp_go (am_d_cm _) (fun pc => Nat.beq pc 9) 60 ?_
    refine And.intro (fun c1 => ?_) (fun c1 => ?_)
    · rw [zle (by unfold zr; omega) (by unfold zr; omega)] at c1
      omega
    · refine And.intro (fun c2 => ?_) (fun c2 => ?_)
      · have c2 : lg_cmp (Int64.ofInt (y : Int)) (Int64.ofInt 0) = 0 := c2
        rw [lgc0 (by unfold yr; omega)] at c2
        rw [show y = 0 by omega, Nat.gcd_zero_right] at h
        exact h
      · have c2 : ¬ lg_cmp (Int64.ofInt (y : Int)) (Int64.ofInt 0) = 0 := c2
        rw [lgc0 (by unfold yr; omega)] at c2
        refine And.intro (by rw [y0, yeq (by unfold yr; omega) (by unfold yr; omega)]; omega) ?_
        have hr := Nat.mod_lt x (show 0 < y by omega)
        show am_wp _ _ _ (9, [.long a, .null, .long b, .null, .long (Int64.ofInt (y : Int)), .null, .long (Int64.ofInt (x : Int) - Int64.ofInt (x : Int) / Int64.ofInt (y : Int) * Int64.ofInt (y : Int)), .null, .int (Int32.ofInt (k : Int) + Int32.ofInt 1), .long (Int64.ofInt (x : Int) - Int64.ofInt (x : Int) / Int64.ofInt (y : Int) * Int64.ofInt (y : Int)), .null], [], 0, 0) M
        rw [yrem hx hy, zadd, show ((k : Int) + 1) = ((k + 1 : Nat) : Int) by omega]
        rw [Nat.gcd_comm, Nat.gcd_rec] at h
        refine am_wp_go (am_d_cm _) (fun pc => Nat.beq pc 9) 60 ?_
        refine And.intro (fun c1 => ?_) (fun c1 => ?_)
        · rw [zle (by unfold zr; omega) (by unfold zr; omega)] at c1
          omega
        · refine And.intro (fun c3 => ?_) (fun c3 => ?_)
          · have c3 : lg_cmp (Int64.ofInt ((x % y : Nat) : Int)) (Int64.ofInt 0) = 0 := c3
            rw [lgc0 (by unfold yr; omega)] at c3
            rw [show x % y = 0 by omega, Nat.gcd_zero_left] at h
            exact h
          · have c3 : ¬ lg_cmp (Int64.ofInt ((x % y : Nat) : Int)) (Int64.ofInt 0) = 0 := c3
            rw [lgc0 (by unfold yr; omega)] at c3
            refine And.intro (by rw [y0, yeq (by unfold yr; omega) (by unfold yr; omega)]; omega) ?_
            have hr2 := Nat.mod_lt y (show 0 < x % y by omega)
            have hh : 2 * (y % (x % y)) < y + 1 := by
              have h1 := Nat.div_add_mod y (x % y)
              have h2 : 1 ≤ y / (x % y) := (Nat.one_le_div_iff (by omega)).mpr (by omega)
              have h3 : x % y ≤ x % y * (y / (x % y)) := Nat.le_mul_of_pos_right _ h2
              omega
            show am_wp _ _ _ (9, [.long a, .null, .long b, .null, .long (Int64.ofInt ((x % y : Nat) : Int)), .null, .long (Int64.ofInt (y : Int) - Int64.ofInt (y : Int) / Int64.ofInt ((x % y : Nat) : Int) * Int64.ofInt ((x % y : Nat) : Int)), .null, .int (Int32.ofInt ((k + 1 : Nat) : Int) + Int32.ofInt 1), .long (Int64.ofInt (y : Int) - Int64.ofInt (y : Int) / Int64.ofInt ((x % y : Nat) : Int) * Int64.ofInt ((x % y : Nat) : Int)), .null], [], 0, 0) M
            rw [yrem hy (by omega), zadd, show (((k + 1 : Nat) : Int) + 1) = ((k + 2 : Nat) : Int) by omega]
            refine ih (x % y) (y % (x % y)) (k + 2) _ v (Or.inr trivial) (by omega) (by omega) ?_ (by omega) ?_
            · have : 2 ^ (m + 1) = 2 * 2 ^ m := by rw [Nat.pow_succ, Nat.mul_comm]
              omega
            · rw [Nat.gcd_rec, Nat.gcd_comm] at h
              exact h
set_option maxRecDepth 100000 in
theorem s_gcd (d : Nat) (Q : am_Q) {x y : Nat} (hx : x < 9223372036854775808) (hy : y < 2 ^ 49) (h : Q (some (.long (Int64.ofInt (Nat.gcd x y : Int)))) M) : am_d (d + 1) 107 [.long (Int64.ofInt (x : Int)), .long (Int64.ofInt (y : Int))] 0 0 M Q := by
  refine am_goT T_X9_commonDivisor [.long (Int64.ofInt (x : Int)), .null, .long (Int64.ofInt (y : Int)), .null, .null, .null, .null, .null, .null, .null, .null] rfl rfl (fun pc => Nat.beq pc 9) 60 ?_
  exact s_gcd_loop d Q 49 x y 0 .null .null (Or.inr trivial) hx (by omega) hy (by omega) h
set_option maxRecDepth 100000 in
theorem s_lowest (d : Nat) (Q : am_Q) {a : Int} {b : Nat} {w : Int32} (h1 : -9223372036854775808 < a) (h2 : a < 9223372036854775808) (hb : 0 < b) (hb2 : b < 2 ^ 49) (h0 : w = 0 → Q (some (.long (Int64.ofInt (ltA a b)))) M) (hn : ¬ w = 0 → Q (some (.long (Int64.ofInt (ltB a b)))) M) : am_d (d + 2) 106 [.long (Int64.ofInt a), .long (Int64.ofInt (b : Int)), .int w] 0 0 M Q := by
  have hg1 : 0 < Nat.gcd a.natAbs b := Nat.gcd_pos_of_pos_right _ hb
  have hg2 : Nat.gcd a.natAbs b ≤ b := Nat.gcd_le_right _ hb
  refine am_goT T_X9_lowestTerms [.long (Int64.ofInt a), .null, .long (Int64.ofInt (b : Int)), .null, .int w, .null, .null] rfl rfl (fun _ => false) 60 ?_
  show am_d (d + 1) 107 [.long (if 0 < Int64.ofInt a then Int64.ofInt a else -Int64.ofInt a), .long (Int64.ofInt (b : Int))] 0 0 _ _
  rw [yabs h1 h2]
  refine s_gcd d _ (by omega) hb2 ?_
  have em : (if Int64.ofInt (Nat.gcd a.natAbs b : Int) < Int64.ofInt 1 then Int64.ofInt 1 else Int64.ofInt (Nat.gcd a.natAbs b : Int)) = Int64.ofInt (Nat.gcd a.natAbs b : Int) := by
    rw [if_neg]
    rw [ylt (by unfold yr; omega) (by unfold yr; omega)]
    omega
  have nz : ¬ (if Int64.ofInt (Nat.gcd a.natAbs b : Int) < Int64.ofInt 1 then Int64.ofInt 1 else Int64.ofInt (Nat.gcd a.natAbs b : Int)) = 0 := by
    rw [em, y0, yeq (by unfold yr; omega) (by unfold yr; omega)]
    omega
  refine And.intro (fun c1 => And.intro nz ?_) (fun c1 => And.intro nz ?_)
  · have h0 := h0 c1
    unfold ltA at h0
    rw [← ytdiv (by unfold yr; omega) (by unfold yr; omega), ← em] at h0
    exact h0
  · have hn := hn c1
    unfold ltB at hn
    rw [Int.natCast_ediv, ← Int.tdiv_eq_ediv_of_nonneg (by omega), ← ytdiv (by unfold yr; omega) (by unfold yr; omega), ← em] at hn
    exact hn
end LT
end
section
/-! late, allLate, lot, fair, count: the class -/
def prd (f : Nat → Nat) : Nat → Nat
  | 0 => 1
  | k + 1 => prd f k * f k
theorem prd_le {f : Nat → Nat} {m : Nat} : ∀ k, (∀ p, p < k → f p ≤ m) → prd f k ≤ m ^ k
  | 0, _ => by simp [prd]
  | k + 1, h => by
    have ih := prd_le (f := f) (m := m) k (fun p hp => h p (by omega))
    unfold prd
    rw [Nat.pow_succ]
    exact Nat.mul_le_mul ih (h k (by omega))
theorem prd_pos {f : Nat → Nat} : ∀ k, (∀ p, p < k → 0 < f p) → 0 < prd f k
  | 0, _ => by simp [prd]
  | k + 1, h => by
    have ih := prd_pos (f := f) k (fun p hp => h p (by omega))
    unfold prd
    exact Nat.mul_pos ih (h k (by omega))
def f_part (a : Int) (b : Nat) (y : Int) : Int := if y = 0 then ltA a b else ltB a b
def f_late (A : aN) (z y : Int) : Int := if (0 ≤ z ∧ z ≤ 6) ∧ 0 ≤ y ∧ y ≤ 1 then f_part ((A 9 z.toNat + 1 : Nat) : Int) (A 8 z.toNat + 2) y else -9223372036854775806
def f_allLate (A : aN) (y : Int) : Int := if 0 ≤ y ∧ y ≤ 1 then f_part ((prd (fun p => A 9 p + 1) (cnt A) : Nat) : Int) (prd (fun p => A 8 p + 2) (cnt A)) y else -9223372036854775806
/-- seats by lot -/
def hi16 (x : Int32) : Nat := x.toUInt32.toNat / 65536
def fs (m : Nat) : Nat → Nat → Nat → Nat
  | 0, _, _ => 0
  | k + 1, l, s => if bitk m s = true then fs m k l (s + 1) else if l = 0 then s else fs m k (l - 1) (s + 1)
def lS (s : Int32) : Nat → Int32
  | 0 => s
  | k + 1 => Int32.ofInt 1103515245 * lS s k + Int32.ofInt 12345
def lD (N : Nat) (s : Int32) (k : Nat) (m : Nat) : Nat := fs m 7 (hi16 (lS s (k + 1)) % (N - k)) 0
def lT (N : Nat) (s : Int32) : Nat → Nat
  | 0 => 0
  | k + 1 => lT N s k ||| 2 ^ lD N s k (lT N s k)
def f_lot (A : aN) (s : Int32) (z : Int) : Int := if 0 ≤ z ∧ z < cnt A then (lD (cnt A) s z.toNat (lT (cnt A) s z.toNat) : Int) else -2
theorem bitv : ∀ k : Nat, k < 128 → ∀ p : Nat, p < 7 → (Int32.ofInt (k : Int) >>> (Int32.ofInt (p : Int) &&& 31)) &&& Int32.ofInt 1 = Int32.ofInt (if bitk k p = true then 1 else 0) := by decide +kernel
theorem orv : ∀ k : Nat, k < 128 → ∀ p : Nat, p < 7 → Int32.ofInt (k : Int) ||| (Int32.ofInt 1 <<< (Int32.ofInt (p : Int) &&& 31)) = Int32.ofInt ((k ||| 2 ^ p : Nat) : Int) ∧ k ||| 2 ^ p < 128 := by decide +kernel
theorem hi16_eq (x : Int32) : (x.toUInt32 >>> ((Int32.ofInt 16).toUInt32 &&& Int32.toUInt32 31)).toInt32 = Int32.ofInt (hi16 x : Int) ∧ hi16 x < 65536 := by
  have h1 : x.toUInt32.toNat < 2 ^ 32 := x.toUInt32.toNat_lt
  have h2 : ((Int32.ofInt 16).toUInt32 &&& Int32.toUInt32 31) = 16 := by decide
  refine ⟨?_, by unfold hi16; omega⟩
  rw [h2]
  have h3 : (x.toUInt32 >>> 16).toNat = hi16 x := by
    rw [UInt32.toNat_shiftRight]
    unfold hi16
    rw [show ((16 : UInt32).toNat % 32) = 16 by decide, Nat.shiftRight_eq_div_pow]
  rw [← h3, zN]
  show _ = Int32.ofNat _
  rw [← UInt32.toInt32_ofNat', UInt32.ofNat_toNat]
theorem fs_lt {m : Nat} : ∀ (k l s : Nat), s + k = 7 → fs m k l s < 7
  | 0, _, _, _ => by simp [fs]
  | k + 1, l, s, h => by
    unfold fs
    split
    · exact fs_lt k l (s + 1) (by omega)
    · split
      · omega
      · exact fs_lt k (l - 1) (s + 1) (by omega)
theorem lT_lt {N : Nat} {s : Int32} : ∀ k, lT N s k < 128
  | 0 => by simp [lT]
  | k + 1 => by
    have ih := lT_lt (N := N) (s := s) k
    unfold lT
    exact (orv _ ih _ (fs_lt 7 _ 0 rfl)).2
/-- fair: what all orders give together -/
def sbs (wd N s : Nat) : Int := ((min (N - (s - s % wd)) wd : Nat) : Int) - 1
def frA (A : aN) (p : Nat) : Int := (max 1 (cnt A - 1) : Nat) * sumr (fun s => 20 - (A 3 3 : Int) * (((s : Int) - (wsh A p : Int)).natAbs : Int)) 0 (cnt A) + sumr (sbs (A 3 2) (cnt A)) 0 (cnt A) * sumr (fun o => (A (20 + p) o : Int)) 0 (cnt A)
def frB (A : aN) : Nat := cnt A * max 1 (cnt A - 1)
def f_fair (A : aN) (z y : Int) : Int := if (0 ≤ z ∧ z < cnt A) ∧ 0 ≤ y ∧ y ≤ 1 then f_part (frA A z.toNat) (frB A) y else -9223372036854775806
def f_count (A : aN) (z : Int) : Int := if z = 0 then (cnt A : Int) else if z = 1 then (A 0 0 : Int) else if z = 2 then (cnt A : Int) - ((SL A (A 3 1) (fun _ => true) (A 4)).length : Int) else if z = 3 then (prz (A 2) 60 : Int) else if z = 4 then (A 0 1 : Int) else if z = 5 then (A 0 2 : Int) else if z = 6 then ((((SL A (A 3 1) (fun _ => true) (A 4)).length + A 3 2 - 1) / A 3 2 : Nat) : Int) else if z = 7 then (A 3 0 : Int) else if z = 8 then (A 0 3 : Int) else -2
section LA
variable {n w3 : Nat} {g : Nat → Nat × Nat} {σ : Nat → Nat → Int32} {τ : Nat → Nat → Int64} {r1 r2 : Nat} {A : aN} {B : aZ}
set_option maxRecDepth 100000 in
theorem s_chance (d : Nat) (Q : am_Q) {p a : Nat} (hp : p < 7) (ha : σ 46 p = Int32.ofInt (a : Int)) (h : Q (some (.int (Int32.ofInt ((a + 1 : Nat) : Int)))) (lo_M n w3 g σ τ r1 r2)) : am_d (d + 1) 49 [.ref 44, .int (Int32.ofInt (p : Int))] 0 0 (lo_M n w3 g σ τ r1 r2) Q := by
  have e : Int32.ofInt ((a + 1 : Nat) : Int) = σ 46 p + Int32.ofInt 1 := by
    rw [ha, zadd]
    congr 1
  rw [e] at h
  refine am_goT T_X8_chanceAbove [.ref 44, .int (Int32.ofInt (p : Int))] rfl rfl (fun _ => false) 30 ?_
  exact ixi p 7 hp h
set_option maxRecDepth 100000 in
theorem s_chanceB (d : Nat) (Q : am_Q) {p a : Nat} (hp : p < 7) (ha : σ 45 p = Int32.ofInt (a : Int)) (h : Q (some (.int (Int32.ofInt ((a + 2 : Nat) : Int)))) (lo_M n w3 g σ τ r1 r2)) : am_d (d + 1) 50 [.ref 44, .int (Int32.ofInt (p : Int))] 0 0 (lo_M n w3 g σ τ r1 r2) Q := by
  have e : Int32.ofInt ((a + 2 : Nat) : Int) = σ 45 p + Int32.ofInt 2 := by
    rw [ha, zadd]
    congr 1
  rw [e] at h
  refine am_goT T_X8_chanceBelow [.ref 44, .int (Int32.ofInt (p : Int))] rfl rfl (fun _ => false) 30 ?_
  exact ixi p 7 hp h
/-- the two parts by y -/
theorem s_lowestP (d : Nat) (Q : am_Q) {M : am_M} {a : Int} {b : Nat} {y : Int} (hy : zr y) (h1 : -9223372036854775808 < a) (h2 : a < 9223372036854775808) (hb : 0 < b) (hb2 : b < 2 ^ 49) (h : Q (some (.long (Int64.ofInt (f_part a b y)))) M) : am_d (d + 2) 106 [.long (Int64.ofInt a), .long (Int64.ofInt (b : Int)), .int (Int32.ofInt y)] 0 0 M Q := by
  unfold f_part at h
  refine s_lowest d Q h1 h2 hb hb2 (fun c => ?_) (fun c => ?_)
  · rw [zeq0 hy] at c
    rw [if_pos c] at h
    exact h
  · rw [zeq0 hy] at c
    rw [if_neg c] at h
    exact h
set_option maxRecDepth 100000 in
theorem c_late (d : Nat) (Q : am_Q) {z y : Int} (hz : zr z) (hy : zr y) (hx : IX A B σ) (hwf : WF A B) (h : Q (some (.long (Int64.ofInt (f_late A z y)))) (lo_M n w3 g σ τ r1 r2)) : am_d (d + 3) 77 [.ref 4, .int (Int32.ofInt z), .int (Int32.ofInt y)] 0 0 (lo_M n w3 g σ τ r1 r2) Q := by
  have hu := hx.2.2.2.2.2.2.1.2
  have hw := hwf.2.2.2.2.2.2.2.2.2.2.1
  have h60 := hwf.2.2.2.2.2.2.2.2.2.1
  unfold f_late at h
  have bad : ¬ ((0 ≤ z ∧ z ≤ 6) ∧ 0 ≤ y ∧ y ≤ 1) → Q (some (.long (Int64.ofInt (-9223372036854775806)))) (lo_M n w3 g σ τ r1 r2) := by
    intro c
    rw [if_neg c] at h
    exact h
  refine am_goT T_X9_late [.ref 4, .int (Int32.ofInt z), .int (Int32.ofInt y)] rfl rfl (fun _ => false) 60 ?_
  refine s_isNumber d _ _ hz ?_
  by_cases c : 0 ≤ z ∧ z ≤ 6
  · rw [if_pos c]
    refine And.intro (fun q => absurd q (by decide)) (fun _ => ?_)
    refine s_withinZ (d + 1) hy (by unfold zr; omega) (by unfold zr; omega) _ _ ?_
    by_cases cy : 0 ≤ y ∧ y ≤ 1
    · rw [if_pos cy]
      refine And.intro (fun q => absurd q (by decide)) (fun _ => ?_)
      rw [if_pos ⟨c, cy⟩] at h
      have hw := hw z.toNat
      show am_d (d + 2) 49 [.ref 44, .int (Int32.ofInt z)] 0 0 _ _
      rw [show Int32.ofInt z = Int32.ofInt (z.toNat : Int) by congr 1; omega]
      refine s_chance (d + 1) _ (by omega) (hu z.toNat (by omega)).2 ?_
      refine s_chanceB (d + 1) _ (p := z.toNat) (by omega) (hu z.toNat (by omega)).1 ?_
      show am_d (d + 2) 106 [.long (Int32.ofInt ((A 9 z.toNat + 1 : Nat) : Int)).toInt64, .long (Int32.ofInt ((A 8 z.toNat + 2 : Nat) : Int)).toInt64, .int (Int32.ofInt y)] 0 0 _ _
      rw [yofz (by unfold zr; omega), yofz (by unfold zr; omega)]
      exact s_lowestP d _ hy (by omega) (by omega) (by omega) (by omega) h
    · rw [if_neg cy]
      exact And.intro (fun _ => bad (fun q => cy q.2)) (fun q => absurd rfl q)
  · rw [if_neg c]
    exact And.intro (fun _ => bad (fun q => c q.1)) (fun q => absurd rfl q)
set_option maxRecDepth 100000 in
theorem s_allLate_loop (d : Nat) (Q : am_Q) {y : Int} (hy : zr y) (hx : IX A B σ) (hwf : WF A B) (h : Q (some (.long (Int64.ofInt (f_part ((prd (fun p => A 9 p + 1) (cnt A) : Nat) : Int) (prd (fun p => A 8 p + 2) (cnt A)) y)))) (lo_M n w3 g σ τ r1 r2)) : ∀ (k p : Nat), p + k = cnt A →
    am_wp (am_d (d + 2)) T_X9_allLate Q (21, [.ref 4, .int (Int32.ofInt y), .long (Int64.ofInt ((prd (fun p => A 9 p + 1) p : Nat) : Int)), .null, .long (Int64.ofInt ((prd (fun p => A 8 p + 2) p : Nat) : Int)), .null, .int (Int32.ofInt (p : Int))], [], 0, 0) (lo_M n w3 g σ τ r1 r2) := by
  have hc := cnt_le A
  have hu := hx.2.2.2.2.2.2.1.2
  have hw := hwf.2.2.2.2.2.2.2.2.2.2.1
  have h60 := hwf.2.2.2.2.2.2.2.2.2.1
  intro k
  induction k with
  | zero =>
    intro p hp
    have hpe : p = cnt A := by omega
    subst hpe
    refine am_wp_go (am_d_cm _) (fun pc => Nat.beq pc 21) 60 ?_
    have b1 : prd (fun p => A 9 p + 1) (cnt A) ≤ 62 ^ cnt A := prd_le _ (fun p _ => by have := hw p; omega)
    have b2 : prd (fun p => A 8 p + 2) (cnt A) ≤ 62 ^ cnt A := prd_le _ (fun p _ => by have := hw p; omega)
    have b3 : 62 ^ cnt A ≤ 62 ^ 7 := Nat.pow_le_pow_right (by omega) hc
    have b4 : 0 < prd (fun p => A 8 p + 2) (cnt A) := prd_pos _ (fun p _ => by omega)
    refine And.intro (fun c1 => ?_) (fun c1 => absurd ?_ c1)
    · exact s_lowestP d _ hy (by omega) (by omega) b4 (by omega) h
    · show σ 5 4 ≤ _
      rw [hx.1.2.2.1, zle (by unfold zr; omega) (by unfold zr; omega)]
      omega
  | succ k ih =>
    intro p hp
    refine am_wp_go (am_d_cm _) (fun pc => Nat.beq pc 21) 60 ?_
    refine And.intro (fun c1 => ?_) (fun c1 => ?_)
    · have c1 : σ 5 4 ≤ Int32.ofInt (p : Int) := c1
      rw [hx.1.2.2.1, zle (by unfold zr; omega) (by unfold zr; omega)] at c1
      omega
    · have hw := hw p
      refine s_chance (d + 1) _ (by omega) (hu p (by omega)).2 ?_
      refine s_chanceB (d + 1) _ (by omega) (hu p (by omega)).1 ?_
      have ih := ih (p + 1) (by omega)
      have e1 : Int64.ofInt ((prd (fun p => A 9 p + 1) (p + 1) : Nat) : Int) = Int64.ofInt ((prd (fun p => A 9 p + 1) p : Nat) : Int) * (Int32.ofInt ((A 9 p + 1 : Nat) : Int)).toInt64 := by
        rw [yofz (by unfold zr; omega), ymul]
        congr 1
      have e2 : Int64.ofInt ((prd (fun p => A 8 p + 2) (p + 1) : Nat) : Int) = Int64.ofInt ((prd (fun p => A 8 p + 2) p : Nat) : Int) * (Int32.ofInt ((A 8 p + 2 : Nat) : Int)).toInt64 := by
        rw [yofz (by unfold zr; omega), ymul]
        congr 1
      rw [e1, e2, show (((p + 1 : Nat) : Int)) = (p : Int) + 1 by omega, ← zadd (p : Int)] at ih
      exact ih
set_option maxRecDepth 100000 in
theorem c_allLate (d : Nat) (Q : am_Q) {y : Int} (hy : zr y) (hx : IX A B σ) (hwf : WF A B) (h : Q (some (.long (Int64.ofInt (f_allLate A y)))) (lo_M n w3 g σ τ r1 r2)) : am_d (d + 3) 78 [.ref 4, .int (Int32.ofInt y)] 0 0 (lo_M n w3 g σ τ r1 r2) Q := by
  unfold f_allLate at h
  refine am_goT T_X9_allLate [.ref 4, .int (Int32.ofInt y), .null, .null, .null, .null, .null] rfl rfl (fun pc => Nat.beq pc 21) 60 ?_
  refine s_withinZ (d + 1) hy (by unfold zr; omega) (by unfold zr; omega) _ _ ?_
  by_cases cy : 0 ≤ y ∧ y ≤ 1
  · rw [if_pos cy]
    rw [if_pos cy] at h
    refine And.intro (fun q => absurd q (by decide)) (fun _ => ?_)
    exact s_allLate_loop d Q hy hx hwf h (cnt A) 0 (by omega)
  · rw [if_neg cy]
    rw [if_neg cy] at h
    exact And.intro (fun _ => h) (fun q => absurd rfl q)
end LA
end
section
/-! lot, fair, count: the class -/
section LO
variable {n w3 : Nat} {g : Nat → Nat × Nat} {σ : Nat → Nat → Int32} {τ : Nat → Nat → Int64} {r1 r2 : Nat} {A : aN} {B : aZ}
set_option maxRecDepth 100000 in
theorem s_freeSeat_loop (d : Nat) (Q : am_Q) {M : am_M} {m : Nat} {x1 : Int32} (hm : m < 128) : ∀ (k l s : Nat), s + k = 7 → l < 65536 → Q (some (.int (Int32.ofInt (fs m k l s : Int)))) M →
    am_wp (am_d d) T_X9_freeSeat Q (4, [.int (Int32.ofInt (m : Int)), .int x1, .int (Int32.ofInt (l : Int)), .int (Int32.ofInt (s : Int))], [], 0, 0) M := by
  intro k
  induction k with
  | zero =>
    intro l s hs hl h
    refine am_wp_go (am_d_cm _) (fun pc => Nat.beq pc 4) 60 ?_
    refine And.intro (fun c1 => h) (fun c1 => absurd ?_ c1)
    rw [zle (by unfold zr; omega) (by unfold zr; omega)]
    omega
  | succ k ih =>
    intro l s hs hl h
    refine am_wp_go (am_d_cm _) (fun pc => Nat.beq pc 4) 60 ?_
    refine And.intro (fun c1 => ?_) (fun c1 => ?_)
    · rw [zle (by unfold zr; omega) (by unfold zr; omega)] at c1
      omega
    · have es : Int32.ofInt (s : Int) + Int32.ofInt 1 = Int32.ofInt ((s + 1 : Nat) : Int) := by
        rw [zadd]
        congr 1
      unfold fs at h
      refine And.intro (fun c2 => ?_) (fun c2 => ?_)
      · have c2 : (Int32.ofInt (m : Int) >>> (Int32.ofInt (s : Int) &&& 31)) &&& Int32.ofInt 1 = 0 := c2
        rw [bitv m hm s (by omega)] at c2
        have hb : ¬ bitk m s = true := fun q => by
          rw [if_pos q] at c2
          exact absurd c2 (by decide)
        rw [if_neg hb] at h
        refine And.intro (fun c3 => ?_) (fun c3 => ?_)
        · rw [zeq0 (by unfold zr; omega)] at c3
          rw [if_pos (by omega)] at h
          exact h
        · rw [zeq0 (by unfold zr; omega)] at c3
          rw [if_neg (by omega)] at h
          have key := ih (l - 1) (s + 1) (by omega) (by omega) h
          rw [← es, show ((l - 1 : Nat) : Int) = (l : Int) + (-1) by omega, ← zadd (l : Int)] at key
          exact key
      · have c2 : ¬ (Int32.ofInt (m : Int) >>> (Int32.ofInt (s : Int) &&& 31)) &&& Int32.ofInt 1 = 0 := c2
        rw [bitv m hm s (by omega)] at c2
        have hb : bitk m s = true := by
          cases e : bitk m s with
          | true => rfl
          | false =>
            rw [e] at c2
            exact absurd rfl c2
        rw [if_pos hb] at h
        have key := ih l (s + 1) (by omega) hl h
        rw [← es] at key
        exact key
set_option maxRecDepth 100000 in
theorem s_freeSeat (d : Nat) (Q : am_Q) {M : am_M} {m l : Nat} (hm : m < 128) (hl : l < 65536) (h : Q (some (.int (Int32.ofInt (fs m 7 l 0 : Int)))) M) : am_d (d + 1) 105 [.int (Int32.ofInt (m : Int)), .int (Int32.ofInt (l : Int))] 0 0 M Q := by
  refine am_goT T_X9_freeSeat [.int (Int32.ofInt (m : Int)), .int (Int32.ofInt (l : Int)), .null, .null] rfl rfl (fun pc => Nat.beq pc 4) 60 ?_
  exact s_freeSeat_loop d Q hm 7 l 0 rfl hl h
set_option maxRecDepth 100000 in
theorem s_lot_loop (d : Nat) (Q : am_Q) {sd : Int32} {N z : Nat} (hN : N ≤ 7) (hz : z < N) (hn : σ 5 4 = Int32.ofInt (N : Int)) (h : Q (some (.int (Int32.ofInt (lD N sd z (lT N sd z) : Int)))) (lo_M n w3 g σ τ r1 r2)) : ∀ (k p : Nat) (dr : Int32), p + k = z + 1 → (∀ q, p = q + 1 → dr = Int32.ofInt (lD N sd q (lT N sd q) : Int)) →
    am_wp (am_d (d + 1)) T_X9_lot Q (22, [.ref 4, .int sd, .int (Int32.ofInt (z : Int)), .int (lS sd p), .int (Int32.ofInt (lT N sd p : Int)), .int dr, .int (Int32.ofInt (p : Int))], [], 0, 0) (lo_M n w3 g σ τ r1 r2) := by
  intro k
  induction k with
  | zero =>
    intro p dr hp hd
    refine am_wp_go (am_d_cm _) (fun pc => Nat.beq pc 22) 60 ?_
    refine And.intro (fun c1 => ?_) (fun c1 => absurd ?_ c1)
    · rw [← hd z (by omega)] at h
      exact h
    · rw [zlt (by unfold zr; omega) (by unfold zr; omega)]
      omega
  | succ k ih =>
    intro p dr hp hd
    refine am_wp_go (am_d_cm _) (fun pc => Nat.beq pc 22) 60 ?_
    refine And.intro (fun c1 => ?_) (fun c1 => ?_)
    · rw [zlt (by unfold zr; omega) (by unfold zr; omega)] at c1
      omega
    · have e1 : (if Int32.ofInt 1 < σ 5 4 - Int32.ofInt (p : Int) then σ 5 4 - Int32.ofInt (p : Int) else Int32.ofInt 1) = Int32.ofInt ((N - p : Nat) : Int) := by
        rw [hn, zsub, zmax (by unfold zr; omega) (by unfold zr; omega)]
        congr 1
        omega
      obtain ⟨e2, h16⟩ := hi16_eq (lS sd (p + 1))
      refine And.intro (fun q => ?_) ?_
      · have q : (if Int32.ofInt 1 < σ 5 4 - Int32.ofInt (p : Int) then σ 5 4 - Int32.ofInt (p : Int) else Int32.ofInt 1) = 0 := q
        rw [e1, zeq0 (by unfold zr; omega)] at q
        omega
      · have hmod := Nat.mod_lt (hi16 (lS sd (p + 1))) (show 0 < N - p by omega)
        show am_d (d + 1) 105 [.int (Int32.ofInt (lT N sd p : Int)), .int (((lS sd (p + 1)).toUInt32 >>> ((Int32.ofInt 16).toUInt32 &&& Int32.toUInt32 31)).toInt32 - ((lS sd (p + 1)).toUInt32 >>> ((Int32.ofInt 16).toUInt32 &&& Int32.toUInt32 31)).toInt32 / (if Int32.ofInt 1 < σ 5 4 - Int32.ofInt (p : Int) then σ 5 4 - Int32.ofInt (p : Int) else Int32.ofInt 1) * (if Int32.ofInt 1 < σ 5 4 - Int32.ofInt (p : Int) then σ 5 4 - Int32.ofInt (p : Int) else Int32.ofInt 1))] 0 0 _ _
        rw [e1, e2, zrem (by omega) (by omega) (by omega)]
        refine s_freeSeat d _ (lT_lt p) (by omega) ?_
        have f7 : lD N sd p (lT N sd p) < 7 := fs_lt 7 _ 0 rfl
        show am_wp _ _ _ (22, [.ref 4, .int sd, .int (Int32.ofInt (z : Int)), .int (lS sd (p + 1)), .int (Int32.ofInt (lT N sd p : Int) ||| (Int32.ofInt 1 <<< (Int32.ofInt (lD N sd p (lT N sd p) : Int) &&& 31))), .int (Int32.ofInt (lD N sd p (lT N sd p) : Int)), .int (Int32.ofInt (p : Int) + Int32.ofInt 1)], [], 0, 0) (lo_M n w3 g σ τ r1 r2)
        rw [(orv _ (lT_lt p) _ f7).1, zadd, show ((p : Int) + 1) = ((p + 1 : Nat) : Int) by omega]
        exact ih (p + 1) _ (by omega) (fun q hq => by rw [show q = p by omega])
set_option maxRecDepth 100000 in
theorem c_lot (d : Nat) (Q : am_Q) {sd : Int32} {z : Int} (hz : zr z) (hx : IX A B σ) (h : Q (some (.int (Int32.ofInt (f_lot A sd z)))) (lo_M n w3 g σ τ r1 r2)) : am_d (d + 3) 75 [.ref 4, .int sd, .int (Int32.ofInt z)] 0 0 (lo_M n w3 g σ τ r1 r2) Q := by
  have hc := cnt_le A
  unfold f_lot at h
  refine am_goT T_X9_lot [.ref 4, .int sd, .int (Int32.ofInt z), .null, .null, .null, .null] rfl rfl (fun pc => Nat.beq pc 22) 60 ?_
  refine s_isThere d _ hz hc hx.1.2.2.1 ?_
  by_cases c : 0 ≤ z ∧ z < cnt A
  · rw [if_pos c]
    rw [if_pos c] at h
    refine And.intro (fun q => absurd q (by decide)) (fun _ => ?_)
    have key := s_lot_loop (n := n) (w3 := w3) (g := g) (τ := τ) (r1 := r1) (r2 := r2) (d + 1) Q (sd := sd) hc (z := z.toNat) (by omega) hx.1.2.2.1 h (z.toNat + 1) 0 (Int32.ofInt (-1)) (by omega) (fun q hq => by omega)
    rw [show ((z.toNat : Nat) : Int) = z by omega] at key
    exact key
  · rw [if_neg c]
    rw [if_neg c] at h
    exact And.intro (fun _ => h) (fun q => absurd rfl q)
/-! fair -/
theorem sumr_b {f : Nat → Int} {K : Nat} {N : Nat} (h : ∀ i, i < N → -(K : Int) ≤ f i ∧ f i ≤ K) : ∀ k i, i + k ≤ N → -((K : Int) * k) ≤ sumr f i k ∧ sumr f i k ≤ K * k
  | 0, i, _ => by simp [sumr]
  | k + 1, i, hk => by
    have ih := sumr_b h k (i + 1) (by omega)
    have := h i (by omega)
    have e : (K : Int) * ((k + 1 : Nat) : Int) = K * (k : Int) + K := by rw [show ((k + 1 : Nat) : Int) = (k : Int) + 1 by omega, Int.mul_add, Int.mul_one]
    unfold sumr
    omega
theorem sumr_b0 {f : Nat → Int} {K : Nat} {N : Nat} (h : ∀ i, i < N → 0 ≤ f i ∧ f i ≤ K) : ∀ k i, i + k ≤ N → 0 ≤ sumr f i k ∧ sumr f i k ≤ K * k
  | 0, i, _ => by simp [sumr]
  | k + 1, i, hk => by
    have ih := sumr_b0 h k (i + 1) (by omega)
    have := h i (by omega)
    have e : (K : Int) * ((k + 1 : Nat) : Int) = K * (k : Int) + K := by rw [show ((k + 1 : Nat) : Int) = (k : Int) + 1 by omega, Int.mul_add, Int.mul_one]
    unfold sumr
    omega
set_option maxRecDepth 100000 in
theorem s_seatsBeside (d : Nat) (Q : am_Q) {s N wd : Nat} (hs : s < N) (hN : N ≤ 7) (h1 : 1 ≤ wd) (h4 : wd ≤ 4) (hw : σ 12 2 = Int32.ofInt (wd : Int)) (h : Q (some (.int (Int32.ofInt (sbs wd N s)))) (lo_M n w3 g σ τ r1 r2)) : am_d (d + 2) 40 [.ref 11, .int (Int32.ofInt (s : Int)), .int (Int32.ofInt (N : Int))] 0 0 (lo_M n w3 g σ τ r1 r2) Q := by
  have hm : s % wd ≤ s := Nat.mod_le _ _
  have e1 : Int32.ofInt (s : Int) - (Int32.ofInt (s : Int) - Int32.ofInt (s : Int) / Int32.ofInt (wd : Int) * Int32.ofInt (wd : Int)) = Int32.ofInt ((s - s % wd : Nat) : Int) := by
    rw [zrem (by omega) (by omega) (by omega), zsub]
    congr 1
    omega
  have e2 : (if Int32.ofInt (wd : Int) < Int32.ofInt (N : Int) - Int32.ofInt ((s - s % wd : Nat) : Int) then Int32.ofInt (wd : Int) else Int32.ofInt (N : Int) - Int32.ofInt ((s - s % wd : Nat) : Int)) - Int32.ofInt 1 = Int32.ofInt (sbs wd N s) := by
    rw [zsub, zmin (by unfold zr; omega) (by unfold zr; omega), zsub]
    unfold sbs
    congr 1
    omega
  rw [← e2, ← e1] at h
  refine am_goT T_X6_seatsBeside [.ref 11, .int (Int32.ofInt (s : Int)), .int (Int32.ofInt (N : Int)), .null] rfl rfl (fun _ => false) 60 ?_
  refine s_wide d _ hw (by omega) (by omega) ?_
  refine And.intro (by rw [zeq0 (by unfold zr; omega)]; omega) ?_
  refine s_wide d _ hw (by omega) (by omega) ?_
  exact h
set_option maxRecDepth 100000 in
theorem s_fair1 (d : Nat) (Q : am_Q) {p N wd wp : Nat} {care : Int} {y oth : Int32} (hp : p < 7) (hN : N ≤ 7) (h1 : 1 ≤ wd) (h4 : wd ≤ 4) (hwp : wp ≤ 6) (hw : σ 12 2 = Int32.ofInt (wd : Int)) (hca : σ 12 3 = Int32.ofInt care) (hwi : σ 8 p = Int32.ofInt (wp : Int)) : ∀ (k s : Nat) (al pm : Int) (x8 : Value), s + k = N →
    (am_wp (am_d (d + 2)) T_X9_fair Q (103, [.ref 4, .int (Int32.ofInt (p : Int)), .int y, .int (Int32.ofInt (N : Int)), .int oth, .int (Int32.ofInt (al + sumr (fun s => 20 - care * (((s : Int) - (wp : Int)).natAbs : Int)) s k)), .int (Int32.ofInt (pm + sumr (sbs wd N) s k)), .int (Int32.ofInt 0), .int (Int32.ofInt 0)], [], 0, 0) (lo_M n w3 g σ τ r1 r2)) →
    am_wp (am_d (d + 2)) T_X9_fair Q (47, [.ref 4, .int (Int32.ofInt (p : Int)), .int y, .int (Int32.ofInt (N : Int)), .int oth, .int (Int32.ofInt al), .int (Int32.ofInt pm), .int (Int32.ofInt (s : Int)), x8], [], 0, 0) (lo_M n w3 g σ τ r1 r2) := by
  intro k
  induction k with
  | zero =>
    intro s al pm x8 hs h
    refine am_wp_go (am_d_cm _) (fun pc => Nat.beq pc 47 || Nat.beq pc 103) 60 ?_
    refine And.intro (fun c1 => ?_) (fun c1 => absurd ?_ c1)
    · unfold sumr at h
      rw [Int.add_zero, Int.add_zero] at h
      exact h
    · rw [zle (by unfold zr; omega) (by unfold zr; omega)]
      omega
  | succ k ih =>
    intro s al pm x8 hs h
    refine am_wp_go (am_d_cm _) (fun pc => Nat.beq pc 47 || Nat.beq pc 103) 60 ?_
    refine And.intro (fun c1 => ?_) (fun c1 => ?_)
    · rw [zle (by unfold zr; omega) (by unfold zr; omega)] at c1
      omega
    · refine ixi p 7 hp ?_
      show am_d (d + 2) 38 [.ref 11, .int (Int32.ofInt (s : Int)), .int (σ 8 p)] 0 0 _ _
      rw [hwi]
      refine s_seatWorth (d + 1) _ hca (by omega) (by omega) ?_
      refine s_seatsBeside d _ (s := s) (N := N) (by omega) hN h1 h4 hw ?_
      have key := ih (s + 1) (al + (20 - care * (((s : Int) - (wp : Int)).natAbs : Int))) (pm + sbs wd N s) x8 (by omega) (by
        unfold sumr at h
        rw [← Int.add_assoc, ← Int.add_assoc] at h
        exact h)
      rw [← zadd al, ← zadd pm, show (((s + 1 : Nat) : Int)) = (s : Int) + 1 by omega, ← zadd (s : Int)] at key
      exact key
set_option maxHeartbeats 1000000 in
set_option maxRecDepth 100000 in
theorem s_fair2 (d : Nat) (Q : am_Q) {p N : Nat} {y : Int} {oth : Nat} {al pm : Int} {lv : Nat → Int} (hy : zr y) (hp : p < 7) (hN : N ≤ 7) (hN1 : 1 ≤ N) (ho : 1 ≤ oth) (ho6 : oth ≤ 6) (hlv : ∀ o, o < N → σ (14 + p) o = Int32.ofInt (lv o))
    : ∀ (k o : Nat) (lo : Int), o + k = N → zr (oth * al + pm * (lo + sumr lv o k)) → Q (some (.long (Int64.ofInt (f_part (oth * al + pm * (lo + sumr lv o k)) (N * oth) y)))) (lo_M n w3 g σ τ r1 r2) →
    am_wp (am_d (d + 2)) T_X9_fair Q (103, [.ref 4, .int (Int32.ofInt (p : Int)), .int (Int32.ofInt y), .int (Int32.ofInt (N : Int)), .int (Int32.ofInt (oth : Int)), .int (Int32.ofInt al), .int (Int32.ofInt pm), .int (Int32.ofInt lo), .int (Int32.ofInt (o : Int))], [], 0, 0) (lo_M n w3 g σ τ r1 r2) := by
  intro k
  induction k with
  | zero =>
    intro o lo hs hr h
    refine am_wp_go (am_d_cm _) (fun pc => Nat.beq pc 103) 60 ?_
    refine And.intro (fun c1 => ?_) (fun c1 => absurd ?_ c1)
    · unfold sumr at h hr
      rw [Int.add_zero] at h hr
      have e1 : (Int32.ofInt (oth : Int) * Int32.ofInt al + Int32.ofInt pm * Int32.ofInt lo).toInt64 = Int64.ofInt (oth * al + pm * lo) := by
        rw [zmul, zmul, zadd, yofz hr]
      have b1 : N * oth ≤ 7 * 6 := Nat.mul_le_mul hN ho6
      have b2 : 0 < N * oth := Nat.mul_pos hN1 ho
      have e2 : (Int32.ofInt (N : Int) * Int32.ofInt (oth : Int)).toInt64 = Int64.ofInt ((N * oth : Nat) : Int) := by
        rw [zmul, yofz (by rw [← Int.natCast_mul]; unfold zr; omega), Int.natCast_mul]
      unfold zr at hr
      show am_d (d + 2) 106 [.long (Int32.ofInt (oth : Int) * Int32.ofInt al + Int32.ofInt pm * Int32.ofInt lo).toInt64, .long (Int32.ofInt (N : Int) * Int32.ofInt (oth : Int)).toInt64, .int (Int32.ofInt y)] 0 0 _ _
      rw [e1, e2]
      exact s_lowestP d _ hy (by omega) (by omega) b2 (by omega) h
    · rw [zle (by unfold zr; omega) (by unfold zr; omega)]
      omega
  | succ k ih =>
    intro o lo hs hr h
    refine am_wp_go (am_d_cm _) (fun pc => Nat.beq pc 103) 60 ?_
    refine And.intro (fun c1 => ?_) (fun c1 => ?_)
    · rw [zle (by unfold zr; omega) (by unfold zr; omega)] at c1
      omega
    · unfold sumr at h hr
      rw [← Int.add_assoc] at h hr
      have key := ih (o + 1) (lo + lv o) (by omega) hr h
      rw [← zadd lo, ← hlv o (by omega), show (((o + 1 : Nat) : Int)) = (o : Int) + 1 by omega, ← zadd (o : Int)] at key
      refine ixi p 7 hp ?_
      rcases (show p = 0 ∨ p = 1 ∨ p = 2 ∨ p = 3 ∨ p = 4 ∨ p = 5 ∨ p = 6 by omega) with rfl | rfl | rfl | rfl | rfl | rfl | rfl
      all_goals
        refine ixi o 7 (by omega) ?_
        exact key
theorem mulb {a b K L : Int} (h1 : 0 ≤ a) (h2 : a ≤ K) (h3 : 0 ≤ b) (h4 : b ≤ L) : 0 ≤ a * b ∧ a * b ≤ K * L := ⟨Int.mul_nonneg h1 h3, Int.mul_le_mul h2 h4 h3 (by omega)⟩
theorem frA_rng (hwf : WF A B) {p : Nat} (hp : p < cnt A) : -100000 ≤ frA A p ∧ frA A p ≤ 100000 := by
  have hc := cnt_le A
  obtain ⟨-, -, hr, ⟨-, -, ⟨w1, w4⟩, c9, s9, -⟩, -, hl, -⟩ := hwf
  have a4 := wsh_lt hp
  have b1 := sumr_b (f := fun s => 20 - (A 3 3 : Int) * (((s : Int) - (wsh A p : Int)).natAbs : Int)) (K := 200) (N := cnt A) (fun i hi => by
    have := mul9 (A 3 3) c9 (((i : Int) - (wsh A p : Int)).natAbs : Int) 10 (by omega) (by omega)
    omega) (cnt A) 0 (by omega)
  have b2 := sumr_b0 (f := sbs (A 3 2) (cnt A)) (K := 4) (N := cnt A) (fun i hi => by
    have := Nat.mod_le i (A 3 2)
    unfold sbs
    omega) (cnt A) 0 (by omega)
  have b3 := sumr_b0 (f := fun o => (A (20 + p) o : Int)) (K := 20) (N := cnt A) (fun i hi => by have := hl p i; omega) (cnt A) 0 (by omega)
  have b4 := mul9 (max 1 (cnt A - 1)) (by omega) (sumr (fun s => 20 - (A 3 3 : Int) * (((s : Int) - (wsh A p : Int)).natAbs : Int)) 0 (cnt A)) 1400 (by omega) (by omega)
  have b5 := mulb b2.1 (show _ ≤ (28 : Int) by omega) b3.1 (show _ ≤ (140 : Int) by omega)
  unfold frA
  omega
set_option maxRecDepth 100000 in
theorem c_fair (d : Nat) (Q : am_Q) {z y : Int} (hz : zr z) (hy : zr y) (hx : IX A B σ) (hwf : WF A B) (h : Q (some (.long (Int64.ofInt (f_fair A z y)))) (lo_M n w3 g σ τ r1 r2)) : am_d (d + 3) 74 [.ref 4, .int (Int32.ofInt z), .int (Int32.ofInt y)] 0 0 (lo_M n w3 g σ τ r1 r2) Q := by
  have hc := cnt_le A
  unfold f_fair at h
  have bad : ¬ ((0 ≤ z ∧ z < cnt A) ∧ 0 ≤ y ∧ y ≤ 1) → Q (some (.long (Int64.ofInt (-9223372036854775806)))) (lo_M n w3 g σ τ r1 r2) := by
    intro c
    rw [if_neg c] at h
    exact h
  refine am_goT T_X9_fair [.ref 4, .int (Int32.ofInt z), .int (Int32.ofInt y), .null, .null, .null, .null, .null, .null] rfl rfl (fun pc => Nat.beq pc 47) 60 ?_
  refine s_isThere d _ hz hc hx.1.2.2.1 ?_
  by_cases c : 0 ≤ z ∧ z < cnt A
  · rw [if_pos c]
    refine And.intro (fun q => absurd q (by decide)) (fun _ => ?_)
    refine s_withinZ (d + 1) hy (by unfold zr; omega) (by unfold zr; omega) _ _ ?_
    by_cases cy : 0 ≤ y ∧ y ≤ 1
    · rw [if_pos cy]
      refine And.intro (fun q => absurd q (by decide)) (fun _ => ?_)
      rw [if_pos ⟨c, cy⟩] at h
      have hp : z.toNat < cnt A := by omega
      have hw6 := wsh_lt hp
      have hrg := frA_rng hwf hp
      have w14 := hwf.2.2.2.1.2.2.1
      have e1 : (if Int32.ofInt 1 < σ 5 4 - Int32.ofInt 1 then σ 5 4 - Int32.ofInt 1 else Int32.ofInt 1) = Int32.ofInt ((max 1 (cnt A - 1) : Nat) : Int) := by
        rw [hx.1.2.2.1, zsub, zmax (by unfold zr; omega) (by unfold zr; omega)]
        congr 1
        omega
      have key := s_fair1 (n := n) (w3 := w3) (g := g) (τ := τ) (r1 := r1) (r2 := r2) d Q (p := z.toNat) (N := cnt A) (wd := A 3 2) (wp := wsh A z.toNat) (care := (A 3 3 : Int)) (y := Int32.ofInt y) (oth := Int32.ofInt ((max 1 (cnt A - 1) : Nat) : Int)) (σ := σ) (by omega) hc w14.1 w14.2 hw6 (hx.2.2.1 2 (by omega)) (hx.2.2.1 3 (by omega)) (hx.1.2.2.2.2 _ hp).2 (cnt A) 0 0 0 .null (by omega) ?_
      · rw [← e1, ← hx.1.2.2.1, show ((z.toNat : Nat) : Int) = z by omega] at key
        exact key
      · rw [Int.zero_add, Int.zero_add]
        have e2 : frA A z.toNat = ((max 1 (cnt A - 1) : Nat) : Int) * sumr (fun s => 20 - (A 3 3 : Int) * (((s : Int) - (wsh A z.toNat : Int)).natAbs : Int)) 0 (cnt A) + sumr (sbs (A 3 2) (cnt A)) 0 (cnt A) * (0 + sumr (fun o => (A (20 + z.toNat) o : Int)) 0 (cnt A)) := by
          rw [Int.zero_add]
          rfl
        refine s_fair2 d Q (lv := fun o => (A (20 + z.toNat) o : Int)) hy (by omega) hc (by omega) (by omega) (by omega) (fun o ho => hx.2.2.2.1 z.toNat (by omega) o (by omega)) (cnt A) 0 0 (by omega) ?_ ?_
        · rw [← e2]
          unfold zr
          omega
        · rw [← e2]
          exact h
    · rw [if_neg cy]
      exact And.intro (fun _ => bad (fun q => cy q.2)) (fun q => absurd rfl q)
  · rw [if_neg c]
    exact And.intro (fun _ => bad (fun q => c q.1)) (fun q => absurd rfl q)
set_option maxRecDepth 100000 in
theorem s_pewsTaken (d : Nat) (Q : am_Q) {N wd : Nat} (hN : N ≤ 7) (h1 : 1 ≤ wd) (h4 : wd ≤ 4) (hw : σ 12 2 = Int32.ofInt (wd : Int)) (ht : σ 23 5 = Int32.ofInt (N : Int)) (h : Q (some (.int (Int32.ofInt (((N + wd - 1) / wd : Nat) : Int)))) (lo_M n w3 g σ τ r1 r2)) : am_d (d + 2) 7 [.ref 23] 0 0 (lo_M n w3 g σ τ r1 r2) Q := by
  have e : (σ 23 5 + Int32.ofInt (wd : Int) - Int32.ofInt 1) / Int32.ofInt (wd : Int) = Int32.ofInt (((N + wd - 1) / wd : Nat) : Int) := by
    rw [ht, zadd, zsub, ← zdiv (by omega) (by omega) (by omega)]
    congr 2
    omega
  rw [← e] at h
  refine am_goT T_X0_pewsTaken [.ref 23] rfl rfl (fun _ => false) 60 ?_
  refine s_wide d _ hw (by omega) (by omega) ?_
  refine s_wide d _ hw (by omega) (by omega) ?_
  exact And.intro (by rw [zeq0 (by unfold zr; omega)]; omega) h
set_option maxRecDepth 100000 in
theorem c_count (d : Nat) (Q : am_Q) {z : Int} (hz : zr z) (hx : IX A B σ) (hwf : WF A B)
    (h : ∀ σ' : Nat → Nat → Int32, (∀ c, c ≠ 22 → c ≠ 23 → c ≠ 24 → c ≠ 25 → σ' c = σ c) → (∀ i, i ≠ 5 → σ' 23 i = σ 23 i) → Q (some (.int (Int32.ofInt (f_count A z)))) (lo_M n w3 g σ' τ r1 r2)) : am_d (d + 5) 85 [.ref 4, .int (Int32.ofInt z)] 0 0 (lo_M n w3 g σ τ r1 r2) Q := by
  have hc := cnt_le A
  have hlen := SL_len A (A 3 1) (fun _ => true) (A 4)
  have w14 := hwf.2.2.2.1.2.2.1
  have h0 := h σ (fun _ _ _ _ _ => rfl) (fun _ _ => rfl)
  unfold f_count at h h0
  have ty : (Int32.ofInt z).toInt = z := zI_to hz
  refine am_goT T_X9_count [.ref 4, .int (Int32.ofInt z)] rfl rfl (fun _ => false) 60 ?_
  refine And.intro (And.intro (fun c0 => ?_) (And.intro (fun c0 => ?_) (And.intro (fun c0 => ?_) (And.intro (fun c0 => ?_) (And.intro (fun c0 => ?_) (And.intro (fun c0 => ?_) (And.intro (fun c0 => ?_) (And.intro (fun c0 => ?_) (And.intro (fun c0 => ?_) trivial))))))))) (fun c0 => ?_)
  · rw [ty] at c0
    rw [if_pos (by omega), ← hx.1.2.2.1] at h0
    exact h0
  · rw [ty] at c0
    rw [if_neg (by omega), if_pos (by omega), ← hx.1.1] at h0
    exact h0
  · rw [ty] at c0
    refine s_seatAll d _ hx hwf (fun σ' k1 k2 k3 k4 k5 k6 => ?_)
    have h := h σ' k1 k2
    rw [if_neg (by omega), if_neg (by omega), if_pos (by omega), ← zsub, ← hx.1.2.2.1, ← k1 5 (by decide) (by decide) (by decide) (by decide), ← k4] at h
    exact h
  · rw [ty] at c0
    rw [if_neg (by omega), if_neg (by omega), if_neg (by omega), if_pos (by omega)] at h0
    refine s_between (d + 3) _ _ _ (i := 0) (j := 60) ⟨rfl, by omega⟩ ⟨rfl, by omega⟩ ?_
    have e : ((prz (A 2) 60 : Nat) : Int) - ((prz (A 2) 0 : Nat) : Int) = ((prz (A 2) 60 : Nat) : Int) := Int.sub_zero _
    rw [hx.2.1 60 (by omega), hx.2.1 0 (by omega), zsub, e]
    exact h0
  · rw [ty] at c0
    rw [if_neg (by omega), if_neg (by omega), if_neg (by omega), if_neg (by omega), if_pos (by omega), ← hx.2.2.2.2.2.1.1] at h0
    exact h0
  · rw [ty] at c0
    rw [if_neg (by omega), if_neg (by omega), if_neg (by omega), if_neg (by omega), if_neg (by omega), if_pos (by omega), ← hx.2.2.2.2.2.2.1.1] at h0
    exact h0
  · rw [ty] at c0
    refine s_seatAll d _ hx hwf (fun σ' k1 k2 k3 k4 k5 k6 => ?_)
    have h := h σ' k1 k2
    rw [if_neg (by omega), if_neg (by omega), if_neg (by omega), if_neg (by omega), if_neg (by omega), if_neg (by omega), if_pos (by omega)] at h
    exact s_pewsTaken (d + 2) _ hlen w14.1 w14.2 (by rw [k1 12 (by decide) (by decide) (by decide) (by decide)]; exact hx.2.2.1 2 (by omega)) k4 h
  · rw [ty] at c0
    rw [if_neg (by omega), if_neg (by omega), if_neg (by omega), if_neg (by omega), if_neg (by omega), if_neg (by omega), if_neg (by omega), if_pos (by omega), ← hx.2.2.1 0 (by omega)] at h0
    exact ixi 0 6 (by omega) h0
  · rw [ty] at c0
    rw [if_neg (by omega), if_neg (by omega), if_neg (by omega), if_neg (by omega), if_neg (by omega), if_neg (by omega), if_neg (by omega), if_neg (by omega), if_pos (by omega), ← hx.2.2.2.2.2.2.2.2] at h0
    exact h0
  · rw [ty] at c0
    rw [if_neg (by omega), if_neg (by omega), if_neg (by omega), if_neg (by omega), if_neg (by omega), if_neg (by omega), if_neg (by omega), if_neg (by omega), if_neg (by omega)] at h0
    exact h0
end LO
end
section
/-! rows of choices: digits of a row -/
def chc (L sh row : Nat) : Nat := row / 2 ^ sh % (L + 1)
def ins (L sh row c : Nat) : Nat := row - row / 2 ^ sh % (L + 1) * 2 ^ sh + c * 2 ^ sh
theorem insR0 : ∀ s : Nat, s < 6 → ∀ c : Nat, c < 4 → ∀ a : Nat, a < 64 → ∀ b : Nat, b < 64 → (Int32.ofInt ((64 * a + b : Nat) : Int) &&& ((Int32.ofInt 3 <<< (Int32.ofInt ((2 * s : Nat) : Int) &&& 31)) ^^^ Int32.ofInt (-1))) ||| (Int32.ofInt (c : Int) <<< (Int32.ofInt ((2 * s : Nat) : Int) &&& 31)) = Int32.ofInt (ins 3 (2 * s) (64 * a + b) c : Int) := by decide +kernel
end
section
/-! digits of a row, what follows -/
theorem shm : ∀ n : Nat, n < 32 → ((nI n &&& 31).toBitVec.smod 32).toNat = n := by decide +kernel
theorem chcI {row sh L k : Nat} (h : row < 2147483648) (hs : sh < 32) (hL : L + 1 = 2 ^ k) (hL2 : (Int32.ofInt (L : Int)).toBitVec.toNat = L) : (Int32.ofInt (row : Int) >>> (Int32.ofInt (sh : Int) &&& 31)) &&& Int32.ofInt (L : Int) = Int32.ofInt (chc L sh row : Int) := by
  rw [zN, zN, zN, pk_shrN h _ sh (shm sh hs)]
  rw [zN] at hL2
  have hd : row / 2 ^ sh ≤ row := Nat.div_le_self _ _
  rw [pk_andN (by omega) k (by rw [hL2]; omega)]
  unfold chc
  rw [hL, zN]
theorem insR {row s c : Nat} (h : row < 4096) (hs : s < 6) (hc : c < 4) : (Int32.ofInt (row : Int) &&& ((Int32.ofInt 3 <<< (Int32.ofInt ((2 * s : Nat) : Int) &&& 31)) ^^^ Int32.ofInt (-1))) ||| (Int32.ofInt (c : Int) <<< (Int32.ofInt ((2 * s : Nat) : Int) &&& 31)) = Int32.ofInt (ins 3 (2 * s) row c : Int) := by
  have := insR0 s hs c hc (row / 64) (by omega) (row % 64) (by omega)
  rw [show 64 * (row / 64) + row % 64 = row by omega] at this
  exact this
theorem insC : ∀ row : Nat, row < 128 → ∀ s : Nat, s < 7 → ∀ c : Nat, c < 2 → (Int32.ofInt (row : Int) &&& ((Int32.ofInt 1 <<< (Int32.ofInt (s : Int) &&& 31)) ^^^ Int32.ofInt (-1))) ||| (Int32.ofInt (c : Int) <<< (Int32.ofInt (s : Int) &&& 31)) = Int32.ofInt (ins 1 s row c : Int) := by decide +kernel
theorem ins_lt0 {P M K row c : Nat} (hP : 0 < P) (hM : 0 < M) (hc : c < M) (h : row < P * M * K) : row - row / P % M * P + c * P < P * M * K := by
  have q1 : row / P < M * K := Nat.div_lt_of_lt_mul (by rw [← Nat.mul_assoc]; exact h)
  have q2 : row / P / M < K := Nat.div_lt_of_lt_mul q1
  have e1 := Nat.div_add_mod (row / P) M
  have e2 := Nat.div_add_mod row P
  have l2 := Nat.mod_lt row hP
  have e3 : P * (row / P) = P * M * (row / P / M) + row / P % M * P := by
    conv => lhs; rw [← e1]
    rw [Nat.mul_add, Nat.mul_assoc, Nat.mul_comm P (row / P % M)]
  have l3 : P * M * (row / P / M) + P * M ≤ P * M * K := by
    rw [← Nat.mul_succ]
    exact Nat.mul_le_mul_left _ q2
  have l4 : c * P + P ≤ P * M := by
    rw [← Nat.succ_mul, Nat.mul_comm P M]
    exact Nat.mul_le_mul_right _ hc
  omega
theorem insR_lt {n s row c : Nat} (hs : s < n) (hc : c < 4) (h : row < 4 ^ n) : ins 3 (2 * s) row c < 4 ^ n := by
  have e : 4 ^ n = 2 ^ (2 * s) * 4 * 4 ^ (n - 1 - s) := by
    rw [Nat.pow_mul, show (2 : Nat) ^ 2 = 4 by decide, ← Nat.pow_succ, ← Nat.pow_add]
    congr 1
    omega
  rw [e] at h ⊢
  exact ins_lt0 (Nat.pow_pos (by omega)) (by omega) hc h
theorem insC_lt {n s row c : Nat} (hs : s < n) (hc : c < 2) (h : row < 2 ^ n) : ins 1 s row c < 2 ^ n := by
  have e : 2 ^ n = 2 ^ s * 2 * 2 ^ (n - 1 - s) := by
    rw [← Nat.pow_succ, ← Nat.pow_add]
    congr 1
    omega
  rw [e] at h ⊢
  exact ins_lt0 (Nat.pow_pos (by omega)) (by omega) hc h
theorem dig {row s t : Nat} (hs : s < t) (hn : chc 3 (2 * s) row ≠ 0) : chc 3 (2 * t) row = chc 3 (2 * t) (row - 1) := by
  have hP : 0 < 2 ^ (2 * t) := Nat.pow_pos (by omega)
  have hm : row % 2 ^ (2 * t) ≠ 0 := by
    intro e
    obtain ⟨q, hq⟩ := Nat.dvd_of_mod_eq_zero e
    apply hn
    have e2 : row = 2 ^ (2 * s) * (4 * (4 ^ (t - s - 1) * q)) := by
      rw [hq, show 2 * t = 2 * s + 2 * (t - s - 1) + 2 by omega, Nat.pow_add, Nat.pow_add, Nat.pow_mul 2 2 (t - s - 1), show (2 : Nat) ^ 2 = 4 by decide]
      rw [Nat.mul_assoc (2 ^ (2 * s)), Nat.mul_assoc (2 ^ (2 * s)), Nat.mul_comm (4 ^ (t - s - 1)) 4, Nat.mul_assoc 4]
    unfold chc
    rw [e2, Nat.mul_div_cancel_left _ (Nat.pow_pos (by omega))]
    exact Nat.mul_mod_right 4 _
  unfold chc
  congr 1
  have e1 := Nat.div_add_mod row (2 ^ (2 * t))
  have l1 := Nat.mod_lt row hP
  refine (Nat.div_eq_of_lt_le ?_ ?_).symm
  · rw [Nat.mul_comm]
    omega
  · rw [Nat.succ_mul, Nat.mul_comm]
    omega
/-! a row that is not made with the object: its kind and size are known by a premise -/
theorem wai {M : am_M} {r W : Nat} {i : Int32} {f : Nat → Prop} (hk : M.2.1 r = (0, W)) (k : Nat) (h2 : k < W) (h1 : i = Int32.ofInt (k : Int)) (h3 : W ≤ 2147483648) (h : f k) : am_on (am_ia M r) (am_ix i (M.2.1 r).2 f) := by
  have e : am_ia M r = true := by
    unfold am_ia
    rw [hk]
    rfl
  rw [e, hk]
  exact ⟨k, h1, ⟨h2, Nat.lt_of_lt_of_le h2 h3⟩, h⟩
theorem wao {M : am_M} {r W : Nat} {i : Int32} {f : Nat → Prop} (hk : M.2.1 r = (0, W)) (k : Nat) (h2 : k < W) (h1 : i = Int32.ofInt (k : Int)) (h3 : W ≤ 2147483648) (h : f k) : am_on (am_ob M r 0) (am_ix i (M.2.1 r).2 f) := by
  have e : am_ob M r 0 = true := by
    unfold am_ob
    rw [hk]
    rfl
  rw [e, hk]
  exact ⟨k, h1, ⟨h2, Nat.lt_of_lt_of_le h2 h3⟩, h⟩
theorem wal {M : am_M} {r W : Nat} {P : Prop} (hk : M.2.1 r = (0, W)) (h : P) : am_on (am_ia M r) P := by
  have e : am_ia M r = true := by
    unfold am_ia
    rw [hk]
    rfl
  rw [e]
  exact h
/-! which rows nobody would leave -/
def wlv (W : Nat → Nat → Int) (L sh row p : Nat) : Nat → Nat → Bool
  | 0, _ => false
  | k + 1, c => if W row p < W (ins L sh row c) p then true else wlv W L sh row p k (c + 1)
def ist (W : Nat → Nat → Int) (L : Nat) (sf : Nat → Nat) (row : Nat) : Nat → Nat → Bool
  | 0, _ => true
  | k + 1, p => if wlv W L (sf p) row p (L + 1) 0 = true then false else ist W L sf row k (p + 1)
def stl (s : Nat → Bool) : Nat → Nat → Nat × Int → Nat × Int
  | 0, _, x => x
  | k + 1, row, x => stl s k (row + 1) (if s row = true then (x.1 + 1, if x.1 = 0 then (row : Int) else x.2) else x)
theorem stl_le {s : Nat → Bool} : ∀ (k row : Nat) (x : Nat × Int), -1 ≤ x.2 ∧ x.2 ≤ row → x.1 ≤ row → (stl s k row x).1 ≤ row + k ∧ -1 ≤ (stl s k row x).2 ∧ (stl s k row x).2 ≤ row + k
  | 0, row, x, h, h2 => by
    unfold stl
    omega
  | k + 1, row, x, h, h2 => by
    unfold stl
    split
    · have := stl_le (s := s) k (row + 1) (x.1 + 1, if x.1 = 0 then (row : Int) else x.2) (by dsimp only; split <;> omega) (by dsimp only; omega)
      omega
    · have := stl_le (s := s) k (row + 1) x (by omega) (by omega)
      omega
theorem ixrow (row n p : Nat) : Int32.ofInt (row : Int) * Int32.ofInt (n : Int) + Int32.ofInt (p : Int) = Int32.ofInt ((row * n + p : Nat) : Int) := by
  rw [zmul, zadd, Int.natCast_add, Int.natCast_mul]
theorem ixlt {row n p R W : Nat} (h1 : row < R) (h2 : p < n) (h3 : R * n ≤ W) : row * n + p < W := by
  have : (row + 1) * n ≤ R * n := Nat.mul_le_mul_right _ h1
  rw [Nat.succ_mul] at this
  omega
end
section
/-! Game, cell 29 -/
section GAR
variable {n w3 : Nat} {g : Nat → Nat × Nat} {σ : Nat → Nat → Int32} {τ : Nat → Nat → Int64} {r1 r2 : Nat} {A : aN} {B : aZ}
set_option maxRecDepth 100000 in
theorem s_choiceR (d : Nat) (Q : am_Q) {row p sh : Nat} (hp : p < 7) (hrow : row < 2147483648) (hsh : sh < 32) (hs : σ 30 p = Int32.ofInt (sh : Int)) (hl : σ 29 1 = Int32.ofInt 3) (h : Q (some (.int (Int32.ofInt (chc 3 sh row : Int)))) (lo_M n w3 g σ τ r1 r2)) : am_d (d + 1) 12 [.ref 29, .int (Int32.ofInt (row : Int)), .int (Int32.ofInt (p : Int))] 0 0 (lo_M n w3 g σ τ r1 r2) Q := by
  have e : (Int32.ofInt (row : Int) >>> (σ 30 p &&& 31)) &&& σ 29 1 = Int32.ofInt (chc 3 sh row : Int) := by
    rw [hs, hl]
    exact chcI (L := 3) (k := 2) hrow hsh (by decide) (by decide)
  rw [← e] at h
  refine am_goT T_X2_choice [.ref 29, .int (Int32.ofInt (row : Int)), .int (Int32.ofInt (p : Int))] rfl rfl (fun _ => false) 30 ?_
  refine ixi p 7 hp ?_
  exact h
set_option maxRecDepth 100000 in
theorem s_noteR (d : Nat) (Q : am_Q) {row p N W : Nat} {v : Int32} (hk : lo_sh w3 g r1 = (0, W)) (hW : W ≤ 2147483648) (hi : row * N + p < W) (hn : σ 29 3 = Int32.ofInt (N : Int)) (h : Q none (lo_M n w3 g (am_u σ r1 (row * N + p) v) τ r1 r2)) : am_d (d + 1) 13 [.ref 29, .int (Int32.ofInt (row : Int)), .int (Int32.ofInt (p : Int)), .int v] 0 0 (lo_M n w3 g σ τ r1 r2) Q := by
  refine am_goT T_X2_note [.ref 29, .int (Int32.ofInt (row : Int)), .int (Int32.ofInt (p : Int)), .int v] rfl rfl (fun _ => false) 30 ?_
  refine wao hk (row * N + p) hi ?_ hW ?_
  · show Int32.ofInt (row : Int) * σ 29 3 + Int32.ofInt (p : Int) = _
    rw [hn, ixrow]
  · exact h
set_option maxRecDepth 100000 in
theorem s_wouldLeave_loopR (d : Nat) (Q : am_Q) {row p N Wn R sh : Nat} {W : Nat → Nat → Int} (hk : lo_sh w3 g r1 = (0, Wn)) (hW : Wn ≤ 2147483648) (hRN : R * N ≤ Wn) (hrow : row < R) (hR : R ≤ 4096) (hp : p < N) (hsh : ∃ s, s < 6 ∧ sh = 2 * s) (hin : ∀ c, c < 3 + 1 → ins 3 sh row c < R) (hl : σ 29 1 = Int32.ofInt 3) (hn : σ 29 3 = Int32.ofInt (N : Int)) (hw : ∀ row p, row < R → p < N → zr (W row p) ∧ σ r1 (row * N + p) = Int32.ofInt (W row p)) : ∀ (k c : Nat) (x7 : Value), c + k = 3 + 1 → Q (some (.int (if wlv W 3 sh row p k c = true then 1 else 0))) (lo_M n w3 g σ τ r1 r2) →
    am_wp (am_d d) T_X2_wouldLeave Q (38, [.ref 29, .int (Int32.ofInt (row : Int)), .int (Int32.ofInt (p : Int)), .int (Int32.ofInt (W row p)), .int (Int32.ofInt (sh : Int)), .int (Int32.ofInt (row : Int) &&& ((σ 29 1 <<< (Int32.ofInt (sh : Int) &&& 31)) ^^^ Int32.ofInt (-1))), .int (Int32.ofInt (c : Int)), x7], [], 0, 0) (lo_M n w3 g σ τ r1 r2) := by
  intro k
  induction k with
  | zero =>
    intro c x7 hc h
    refine am_wp_go (am_d_cm _) (fun pc => Nat.beq pc 38) 60 ?_
    refine And.intro (fun c1 => ?_) (fun c1 => absurd ?_ c1)
    · exact And.intro (Or.inl rfl) h
    · show σ 29 1 < Int32.ofInt (c : Int)
      rw [hl, zlt (by unfold zr; omega) (by unfold zr; omega)]
      omega
  | succ k ih =>
    intro c x7 hc h
    refine am_wp_go (am_d_cm _) (fun pc => Nat.beq pc 38) 60 ?_
    refine And.intro (fun c1 => ?_) (fun c1 => ?_)
    · have c1 : σ 29 1 < Int32.ofInt (c : Int) := c1
      rw [hl, zlt (by unfold zr; omega) (by unfold zr; omega)] at c1
      omega
    · have e : (Int32.ofInt (row : Int) &&& ((σ 29 1 <<< (Int32.ofInt (sh : Int) &&& 31)) ^^^ Int32.ofInt (-1))) ||| (Int32.ofInt (c : Int) <<< (Int32.ofInt (sh : Int) &&& 31)) = Int32.ofInt (ins 3 sh row c : Int) := by
        rw [hl]
        obtain ⟨s, hs6, rfl⟩ := hsh
        exact insR (by omega) hs6 (by omega)
      have hi := hin c (by omega)
      refine wai hk (ins 3 sh row c * N + p) (ixlt hi hp hRN) ?_ hW ?_
      · show ((Int32.ofInt (row : Int) &&& ((σ 29 1 <<< (Int32.ofInt (sh : Int) &&& 31)) ^^^ Int32.ofInt (-1))) ||| (Int32.ofInt (c : Int) <<< (Int32.ofInt (sh : Int) &&& 31))) * σ 29 3 + Int32.ofInt (p : Int) = _
        rw [e, hn, ixrow]
      · unfold wlv at h
        obtain ⟨z1, w1⟩ := hw row p hrow hp
        obtain ⟨z2, w2⟩ := hw (ins 3 sh row c) p hi hp
        refine And.intro (fun c2 => ?_) (fun c2 => ?_)
        · have c2 : σ r1 (ins 3 sh row c * N + p) ≤ Int32.ofInt (W row p) := c2
          rw [w2, zle z2 z1] at c2
          rw [if_neg (show ¬ W row p < W (ins 3 sh row c) p by omega)] at h
          have key := ih (c + 1) (.int ((Int32.ofInt (row : Int) &&& ((σ 29 1 <<< (Int32.ofInt (sh : Int) &&& 31)) ^^^ Int32.ofInt (-1))) ||| (Int32.ofInt (c : Int) <<< (Int32.ofInt (sh : Int) &&& 31)))) (by omega) h
          rw [show (((c + 1 : Nat) : Int)) = (c : Int) + 1 by omega, ← zadd (c : Int)] at key
          exact key
        · have c2 : ¬ σ r1 (ins 3 sh row c * N + p) ≤ Int32.ofInt (W row p) := c2
          rw [w2, zle z2 z1] at c2
          rw [if_pos (show W row p < W (ins 3 sh row c) p by omega), if_pos rfl] at h
          exact And.intro (Or.inr rfl) h
set_option maxRecDepth 100000 in
theorem s_wouldLeaveR (d : Nat) (Q : am_Q) {row p N Wn R sh : Nat} {W : Nat → Nat → Int} (hk : lo_sh w3 g r1 = (0, Wn)) (hW : Wn ≤ 2147483648) (hRN : R * N ≤ Wn) (hrow : row < R) (hR : R ≤ 4096) (hp : p < N) (hN : N ≤ 7) (hsh : ∃ s, s < 6 ∧ sh = 2 * s) (hs : σ 30 p = Int32.ofInt (sh : Int)) (hin : ∀ c, c < 3 + 1 → ins 3 sh row c < R) (hl : σ 29 1 = Int32.ofInt 3) (hn : σ 29 3 = Int32.ofInt (N : Int)) (hw : ∀ row p, row < R → p < N → zr (W row p) ∧ σ r1 (row * N + p) = Int32.ofInt (W row p)) (h : Q (some (.int (if wlv W 3 sh row p (3 + 1) 0 = true then 1 else 0))) (lo_M n w3 g σ τ r1 r2)) : am_d (d + 1) 16 [.ref 29, .int (Int32.ofInt (row : Int)), .int (Int32.ofInt (p : Int))] 0 0 (lo_M n w3 g σ τ r1 r2) Q := by
  refine am_goT T_X2_wouldLeave [.ref 29, .int (Int32.ofInt (row : Int)), .int (Int32.ofInt (p : Int)), .null, .null, .null, .null, .null] rfl rfl (fun pc => Nat.beq pc 38) 60 ?_
  refine wai hk (row * N + p) (ixlt hrow hp hRN) ?_ hW ?_
  · show Int32.ofInt (row : Int) * σ 29 3 + Int32.ofInt (p : Int) = _
    rw [hn, ixrow]
  · refine ixi p 7 (by omega) ?_
    have key := s_wouldLeave_loopR (n := n) (τ := τ) (r1 := r1) (r2 := r2) d Q hk hW hRN hrow hR hp hsh hin hl hn hw (3 + 1) 0 .null (by omega) h
    rw [← (hw row p hrow hp).2, ← hs] at key
    exact key
set_option maxRecDepth 100000 in
theorem s_isStable_loopR (d : Nat) (Q : am_Q) {row N Wn R : Nat} {sf : Nat → Nat} {W : Nat → Nat → Int} (hk : lo_sh w3 g r1 = (0, Wn)) (hW : Wn ≤ 2147483648) (hRN : R * N ≤ Wn) (hrow : row < R) (hR : R ≤ 4096) (hN : N ≤ 7) (hsf : ∀ p, p < N → ∃ s, s < 6 ∧ sf p = 2 * s) (hs : ∀ p, p < N → σ 30 p = Int32.ofInt (sf p : Int)) (hin : ∀ p, p < N → ∀ c, c < 3 + 1 → ins 3 (sf p) row c < R) (hl : σ 29 1 = Int32.ofInt 3) (hn : σ 29 3 = Int32.ofInt (N : Int)) (hw : ∀ row p, row < R → p < N → zr (W row p) ∧ σ r1 (row * N + p) = Int32.ofInt (W row p)) : ∀ (k p : Nat), p + k = N → Q (some (.int (if ist W 3 sf row k p = true then 1 else 0))) (lo_M n w3 g σ τ r1 r2) →
    am_wp (am_d (d + 1)) T_X2_isStable Q (2, [.ref 29, .int (Int32.ofInt (row : Int)), .int (Int32.ofInt (p : Int))], [], 0, 0) (lo_M n w3 g σ τ r1 r2) := by
  intro k
  induction k with
  | zero =>
    intro p hp h
    refine am_wp_go (am_d_cm _) (fun pc => Nat.beq pc 2) 60 ?_
    refine And.intro (fun c1 => ?_) (fun c1 => absurd ?_ c1)
    · exact And.intro (Or.inr rfl) h
    · show σ 29 3 ≤ Int32.ofInt (p : Int)
      rw [hn, zle (by unfold zr; omega) (by unfold zr; omega)]
      omega
  | succ k ih =>
    intro p hp h
    refine am_wp_go (am_d_cm _) (fun pc => Nat.beq pc 2) 60 ?_
    refine And.intro (fun c1 => ?_) (fun c1 => ?_)
    · have c1 : σ 29 3 ≤ Int32.ofInt (p : Int) := c1
      rw [hn, zle (by unfold zr; omega) (by unfold zr; omega)] at c1
      omega
    · unfold ist at h
      refine s_wouldLeaveR d _ hk hW hRN hrow hR (show p < N by omega) hN (hsf p (by omega)) (hs p (by omega)) (hin p (by omega)) hl hn hw ?_
      by_cases c2 : wlv W 3 (sf p) row p (3 + 1) 0 = true
      · rw [if_pos c2]
        rw [if_pos c2] at h
        refine And.intro (fun q => absurd q (by decide)) (fun _ => ?_)
        exact And.intro (Or.inl rfl) h
      · rw [if_neg c2]
        rw [if_neg c2] at h
        refine And.intro (fun _ => ?_) (fun q => absurd rfl q)
        have key := ih (p + 1) (by omega) h
        rw [show (((p + 1 : Nat) : Int)) = (p : Int) + 1 by omega, ← zadd (p : Int)] at key
        exact key
set_option maxRecDepth 100000 in
theorem s_settle_loopR (d : Nat) (Q : am_Q) {N Wn R : Nat} {sf : Nat → Nat} {W : Nat → Nat → Int} (hgr : ∀ c, c < 77 → c ≠ 31 → c ≠ r1) (hk : lo_sh w3 g r1 = (0, Wn)) (hW : Wn ≤ 2147483648) (hRN : R * N ≤ Wn) (hR : R ≤ 4096) (hN : N ≤ 7) (hsf : ∀ p, p < N → ∃ s, s < 6 ∧ sf p = 2 * s) (hin : ∀ row, row < R → ∀ p, p < N → ∀ c, c < 3 + 1 → ins 3 (sf p) row c < R) : ∀ (k row : Nat) (x : Nat × Int) (σ : Nat → Nat → Int32), row + k = R → (∀ p, p < N → σ 30 p = Int32.ofInt (sf p : Int)) → σ 29 1 = Int32.ofInt 3 → σ 29 3 = Int32.ofInt (N : Int) → σ 29 5 = Int32.ofInt (R : Int) → (∀ row p, row < R → p < N → zr (W row p) ∧ σ r1 (row * N + p) = Int32.ofInt (W row p)) → x.1 ≤ row → σ 29 6 = Int32.ofInt (x.1 : Int) → σ 29 7 = Int32.ofInt x.2 →
    (∀ σ' : Nat → Nat → Int32, (∀ c, c ≠ 29 → σ' c = σ c) → (∀ i, i ≠ 6 → i ≠ 7 → σ' 29 i = σ 29 i) → σ' 29 6 = Int32.ofInt ((stl (fun row => ist W 3 sf row N 0) k row x).1 : Int) → σ' 29 7 = Int32.ofInt (stl (fun row => ist W 3 sf row N 0) k row x).2 → Q none (lo_M n w3 g σ' τ r1 r2)) →
    am_wp (am_d (d + 2)) T_X2_settle Q (12, [.ref 29, .int (Int32.ofInt (row : Int))], [], 0, 0) (lo_M n w3 g σ τ r1 r2) := by
  intro k
  induction k with
  | zero =>
    intro row x σ hrow hs hl hn h5 hw hx1 h6 h7 h
    refine am_wp_go (am_d_cm _) (fun pc => Nat.beq pc 12) 60 ?_
    refine And.intro (fun c1 => ?_) (fun c1 => absurd ?_ c1)
    · exact h σ (fun _ _ => rfl) (fun _ _ _ => rfl) h6 h7
    · show σ 29 5 ≤ Int32.ofInt (row : Int)
      rw [h5, zle (by unfold zr; omega) (by unfold zr; omega)]
      omega
  | succ k ih =>
    intro row x σ hrow hs hl hn h5 hw hx1 h6 h7 h
    have hG : 29 ≠ r1 := hgr 29 (by omega) (by omega)
    have hrl : row < R := by omega
    have eu : ∀ c v σ, σ r1 = (am_u σ 29 c v : Nat → Nat → Int32) r1 := fun c v σ => (am_u_ne (Ne.symm hG)).symm
    refine am_wp_go (am_d_cm _) (fun pc => Nat.beq pc 12) 60 ?_
    refine And.intro (fun c1 => ?_) (fun c1 => ?_)
    · have c1 : σ 29 5 ≤ Int32.ofInt (row : Int) := c1
      rw [h5, zle (by unfold zr; omega) (by unfold zr; omega)] at c1
      omega
    · refine am_goT (d := d + 1) (k := 15) T_X2_isStable [.ref 29, .int (Int32.ofInt (row : Int)), .null] rfl rfl (fun pc => Nat.beq pc 2) 60 ?_
      refine s_isStable_loopR d _ hk hW hRN hrl hR hN hsf hs (hin row hrl) hl hn hw N 0 (by omega) ?_
      have er : Int32.ofInt (row : Int) + Int32.ofInt 1 = Int32.ofInt ((row + 1 : Nat) : Int) := by
        rw [zadd]
        congr 1
      by_cases c2 : ist W 3 sf row N 0 = true
      · rw [if_pos c2]
        refine And.intro (fun q => absurd q (by decide)) (fun _ => ?_)
        have e1 : σ 29 6 + Int32.ofInt 1 = Int32.ofInt ((x.1 + 1 : Nat) : Int) := by
          rw [h6, zadd]
          congr 1
        have st : stl (fun row => ist W 3 sf row N 0) (k + 1) row x = stl (fun row => ist W 3 sf row N 0) k (row + 1) (x.1 + 1, if x.1 = 0 then (row : Int) else x.2) := by
          show stl _ k (row + 1) (if _ then _ else _) = _
          rw [if_pos c2]
        rw [st] at h
        refine And.intro (fun c3 => ?_) (fun c3 => ?_)
        · have c3 : σ 29 6 = 0 := c3
          rw [h6, zeq0 (by unfold zr; omega)] at c3
          have hx0 : x.1 = 0 := by omega
          rw [if_pos hx0] at h
          have key := ih (row + 1) (x.1 + 1, (row : Int)) (am_u (am_u σ 29 7 (Int32.ofInt (row : Int))) 29 6 (Int32.ofInt ((x.1 + 1 : Nat) : Int))) (by omega) hs hl hn h5 (fun a b ha hb => by rw [← eu, ← eu]; exact hw a b ha hb) (by dsimp only; omega) rfl rfl (fun σ' k1 k2 k3 k4 => h σ' (fun c e => by rw [k1 c e, am_u_ne e, am_u_ne e]) (fun i e1 e2 => by rw [k2 i e1 e2, am_u_at, if_neg e1, am_u_at, if_neg e2]) k3 k4)
          rw [← er, ← e1] at key
          exact key
        · have c3 : ¬ σ 29 6 = 0 := c3
          rw [h6, zeq0 (by unfold zr; omega)] at c3
          rw [if_neg (by omega)] at h
          have key := ih (row + 1) (x.1 + 1, x.2) (am_u σ 29 6 (Int32.ofInt ((x.1 + 1 : Nat) : Int))) (by omega) hs hl hn h5 (fun a b ha hb => by rw [← eu]; exact hw a b ha hb) (by dsimp only; omega) rfl h7 (fun σ' k1 k2 k3 k4 => h σ' (fun c e => by rw [k1 c e, am_u_ne e]) (fun i e1 e2 => by rw [k2 i e1 e2, am_u_at, if_neg e1]) k3 k4)
          rw [← er, ← e1] at key
          exact key
      · rw [if_neg c2]
        refine And.intro (fun _ => ?_) (fun q => absurd rfl q)
        have st : stl (fun row => ist W 3 sf row N 0) (k + 1) row x = stl (fun row => ist W 3 sf row N 0) k (row + 1) x := by
          show stl _ k (row + 1) (if _ then _ else _) = _
          rw [if_neg c2]
        rw [st] at h
        have key := ih (row + 1) x σ (by omega) hs hl hn h5 hw (by omega) h6 h7 h
        rw [← er] at key
        exact key
set_option maxRecDepth 100000 in
theorem s_settleR (d : Nat) (Q : am_Q) {N Wn R : Nat} {sf : Nat → Nat} {W : Nat → Nat → Int} (hgr : ∀ c, c < 77 → c ≠ 31 → c ≠ r1) (hk : lo_sh w3 g r1 = (0, Wn)) (hW : Wn ≤ 2147483648) (hRN : R * N ≤ Wn) (hR : R ≤ 4096) (hN : N ≤ 7) (hsf : ∀ p, p < N → ∃ s, s < 6 ∧ sf p = 2 * s) (hin : ∀ row, row < R → ∀ p, p < N → ∀ c, c < 3 + 1 → ins 3 (sf p) row c < R) (hs : ∀ p, p < N → σ 30 p = Int32.ofInt (sf p : Int)) (hl : σ 29 1 = Int32.ofInt 3) (hn : σ 29 3 = Int32.ofInt (N : Int)) (h5 : σ 29 5 = Int32.ofInt (R : Int)) (hw : ∀ row p, row < R → p < N → zr (W row p) ∧ σ r1 (row * N + p) = Int32.ofInt (W row p))
    (h : ∀ σ' : Nat → Nat → Int32, (∀ c, c ≠ 29 → σ' c = σ c) → (∀ i, i ≠ 6 → i ≠ 7 → σ' 29 i = σ 29 i) → σ' 29 6 = Int32.ofInt ((stl (fun row => ist W 3 sf row N 0) R 0 (0, -1)).1 : Int) → σ' 29 7 = Int32.ofInt (stl (fun row => ist W 3 sf row N 0) R 0 (0, -1)).2 → Q none (lo_M n w3 g σ' τ r1 r2)) : am_d (d + 3) 14 [.ref 29] 0 0 (lo_M n w3 g σ τ r1 r2) Q := by
  have hG : 29 ≠ r1 := hgr 29 (by omega) (by omega)
  have eu : ∀ c v σ, σ r1 = (am_u σ 29 c v : Nat → Nat → Int32) r1 := fun c v σ => (am_u_ne (Ne.symm hG)).symm
  refine am_goT T_X2_settle [.ref 29, .null] rfl rfl (fun pc => Nat.beq pc 12) 60 ?_
  exact s_settle_loopR d Q hgr hk hW hRN hR hN hsf hin R 0 (0, -1) (am_u (am_u σ 29 6 (Int32.ofInt 0)) 29 7 (Int32.ofInt (-1))) (by omega) hs hl hn h5 (fun a b ha hb => by rw [← eu, ← eu]; exact hw a b ha hb) (Nat.le_refl _) rfl rfl (fun σ' k1 k2 k3 k4 => h σ' (fun c e => by rw [k1 c e, am_u_ne e, am_u_ne e]) (fun i e1 e2 => by rw [k2 i e1 e2, am_u_at, if_neg e2, am_u_at, if_neg e1]) k3 k4)
end GAR
/-! Game, cell 32 -/
section GAC
variable {n w3 : Nat} {g : Nat → Nat × Nat} {σ : Nat → Nat → Int32} {τ : Nat → Nat → Int64} {r1 r2 : Nat} {A : aN} {B : aZ}
set_option maxRecDepth 100000 in
theorem s_choiceC (d : Nat) (Q : am_Q) {row p sh : Nat} (hp : p < 7) (hrow : row < 2147483648) (hsh : sh < 32) (hs : σ 33 p = Int32.ofInt (sh : Int)) (hl : σ 32 1 = Int32.ofInt 1) (h : Q (some (.int (Int32.ofInt (chc 1 sh row : Int)))) (lo_M n w3 g σ τ r1 r2)) : am_d (d + 1) 12 [.ref 32, .int (Int32.ofInt (row : Int)), .int (Int32.ofInt (p : Int))] 0 0 (lo_M n w3 g σ τ r1 r2) Q := by
  have e : (Int32.ofInt (row : Int) >>> (σ 33 p &&& 31)) &&& σ 32 1 = Int32.ofInt (chc 1 sh row : Int) := by
    rw [hs, hl]
    exact chcI (L := 1) (k := 1) hrow hsh (by decide) (by decide)
  rw [← e] at h
  refine am_goT T_X2_choice [.ref 32, .int (Int32.ofInt (row : Int)), .int (Int32.ofInt (p : Int))] rfl rfl (fun _ => false) 30 ?_
  refine ixi p 7 hp ?_
  exact h
set_option maxRecDepth 100000 in
theorem s_noteC (d : Nat) (Q : am_Q) {row p N W : Nat} {v : Int32} (hk : lo_sh w3 g r2 = (0, W)) (hW : W ≤ 2147483648) (hi : row * N + p < W) (hn : σ 32 3 = Int32.ofInt (N : Int)) (h : Q none (lo_M n w3 g (am_u σ r2 (row * N + p) v) τ r1 r2)) : am_d (d + 1) 13 [.ref 32, .int (Int32.ofInt (row : Int)), .int (Int32.ofInt (p : Int)), .int v] 0 0 (lo_M n w3 g σ τ r1 r2) Q := by
  refine am_goT T_X2_note [.ref 32, .int (Int32.ofInt (row : Int)), .int (Int32.ofInt (p : Int)), .int v] rfl rfl (fun _ => false) 30 ?_
  refine wao hk (row * N + p) hi ?_ hW ?_
  · show Int32.ofInt (row : Int) * σ 32 3 + Int32.ofInt (p : Int) = _
    rw [hn, ixrow]
  · exact h
set_option maxRecDepth 100000 in
theorem s_wouldLeave_loopC (d : Nat) (Q : am_Q) {row p N Wn R sh : Nat} {W : Nat → Nat → Int} (hk : lo_sh w3 g r2 = (0, Wn)) (hW : Wn ≤ 2147483648) (hRN : R * N ≤ Wn) (hrow : row < R) (hR : R ≤ 128) (hp : p < N) (hsh : sh < 7) (hin : ∀ c, c < 1 + 1 → ins 1 sh row c < R) (hl : σ 32 1 = Int32.ofInt 1) (hn : σ 32 3 = Int32.ofInt (N : Int)) (hw : ∀ row p, row < R → p < N → zr (W row p) ∧ σ r2 (row * N + p) = Int32.ofInt (W row p)) : ∀ (k c : Nat) (x7 : Value), c + k = 1 + 1 → Q (some (.int (if wlv W 1 sh row p k c = true then 1 else 0))) (lo_M n w3 g σ τ r1 r2) →
    am_wp (am_d d) T_X2_wouldLeave Q (38, [.ref 32, .int (Int32.ofInt (row : Int)), .int (Int32.ofInt (p : Int)), .int (Int32.ofInt (W row p)), .int (Int32.ofInt (sh : Int)), .int (Int32.ofInt (row : Int) &&& ((σ 32 1 <<< (Int32.ofInt (sh : Int) &&& 31)) ^^^ Int32.ofInt (-1))), .int (Int32.ofInt (c : Int)), x7], [], 0, 0) (lo_M n w3 g σ τ r1 r2) := by
  intro k
  induction k with
  | zero =>
    intro c x7 hc h
    refine am_wp_go (am_d_cm _) (fun pc => Nat.beq pc 38) 60 ?_
    refine And.intro (fun c1 => ?_) (fun c1 => absurd ?_ c1)
    · exact And.intro (Or.inl rfl) h
    · show σ 32 1 < Int32.ofInt (c : Int)
      rw [hl, zlt (by unfold zr; omega) (by unfold zr; omega)]
      omega
  | succ k ih =>
    intro c x7 hc h
    refine am_wp_go (am_d_cm _) (fun pc => Nat.beq pc 38) 60 ?_
    refine And.intro (fun c1 => ?_) (fun c1 => ?_)
    · have c1 : σ 32 1 < Int32.ofInt (c : Int) := c1
      rw [hl, zlt (by unfold zr; omega) (by unfold zr; omega)] at c1
      omega
    · have e : (Int32.ofInt (row : Int) &&& ((σ 32 1 <<< (Int32.ofInt (sh : Int) &&& 31)) ^^^ Int32.ofInt (-1))) ||| (Int32.ofInt (c : Int) <<< (Int32.ofInt (sh : Int) &&& 31)) = Int32.ofInt (ins 1 sh row c : Int) := by
        rw [hl]
        exact insC row (by omega) sh hsh c (by omega)
      have hi := hin c (by omega)
      refine wai hk (ins 1 sh row c * N + p) (ixlt hi hp hRN) ?_ hW ?_
      · show ((Int32.ofInt (row : Int) &&& ((σ 32 1 <<< (Int32.ofInt (sh : Int) &&& 31)) ^^^ Int32.ofInt (-1))) ||| (Int32.ofInt (c : Int) <<< (Int32.ofInt (sh : Int) &&& 31))) * σ 32 3 + Int32.ofInt (p : Int) = _
        rw [e, hn, ixrow]
      · unfold wlv at h
        obtain ⟨z1, w1⟩ := hw row p hrow hp
        obtain ⟨z2, w2⟩ := hw (ins 1 sh row c) p hi hp
        refine And.intro (fun c2 => ?_) (fun c2 => ?_)
        · have c2 : σ r2 (ins 1 sh row c * N + p) ≤ Int32.ofInt (W row p) := c2
          rw [w2, zle z2 z1] at c2
          rw [if_neg (show ¬ W row p < W (ins 1 sh row c) p by omega)] at h
          have key := ih (c + 1) (.int ((Int32.ofInt (row : Int) &&& ((σ 32 1 <<< (Int32.ofInt (sh : Int) &&& 31)) ^^^ Int32.ofInt (-1))) ||| (Int32.ofInt (c : Int) <<< (Int32.ofInt (sh : Int) &&& 31)))) (by omega) h
          rw [show (((c + 1 : Nat) : Int)) = (c : Int) + 1 by omega, ← zadd (c : Int)] at key
          exact key
        · have c2 : ¬ σ r2 (ins 1 sh row c * N + p) ≤ Int32.ofInt (W row p) := c2
          rw [w2, zle z2 z1] at c2
          rw [if_pos (show W row p < W (ins 1 sh row c) p by omega), if_pos rfl] at h
          exact And.intro (Or.inr rfl) h
set_option maxRecDepth 100000 in
theorem s_wouldLeaveC (d : Nat) (Q : am_Q) {row p N Wn R sh : Nat} {W : Nat → Nat → Int} (hk : lo_sh w3 g r2 = (0, Wn)) (hW : Wn ≤ 2147483648) (hRN : R * N ≤ Wn) (hrow : row < R) (hR : R ≤ 128) (hp : p < N) (hN : N ≤ 7) (hsh : sh < 7) (hs : σ 33 p = Int32.ofInt (sh : Int)) (hin : ∀ c, c < 1 + 1 → ins 1 sh row c < R) (hl : σ 32 1 = Int32.ofInt 1) (hn : σ 32 3 = Int32.ofInt (N : Int)) (hw : ∀ row p, row < R → p < N → zr (W row p) ∧ σ r2 (row * N + p) = Int32.ofInt (W row p)) (h : Q (some (.int (if wlv W 1 sh row p (1 + 1) 0 = true then 1 else 0))) (lo_M n w3 g σ τ r1 r2)) : am_d (d + 1) 16 [.ref 32, .int (Int32.ofInt (row : Int)), .int (Int32.ofInt (p : Int))] 0 0 (lo_M n w3 g σ τ r1 r2) Q := by
  refine am_goT T_X2_wouldLeave [.ref 32, .int (Int32.ofInt (row : Int)), .int (Int32.ofInt (p : Int)), .null, .null, .null, .null, .null] rfl rfl (fun pc => Nat.beq pc 38) 60 ?_
  refine wai hk (row * N + p) (ixlt hrow hp hRN) ?_ hW ?_
  · show Int32.ofInt (row : Int) * σ 32 3 + Int32.ofInt (p : Int) = _
    rw [hn, ixrow]
  · refine ixi p 7 (by omega) ?_
    have key := s_wouldLeave_loopC (n := n) (τ := τ) (r1 := r1) (r2 := r2) d Q hk hW hRN hrow hR hp hsh hin hl hn hw (1 + 1) 0 .null (by omega) h
    rw [← (hw row p hrow hp).2, ← hs] at key
    exact key
set_option maxRecDepth 100000 in
theorem s_isStable_loopC (d : Nat) (Q : am_Q) {row N Wn R : Nat} {sf : Nat → Nat} {W : Nat → Nat → Int} (hk : lo_sh w3 g r2 = (0, Wn)) (hW : Wn ≤ 2147483648) (hRN : R * N ≤ Wn) (hrow : row < R) (hR : R ≤ 128) (hN : N ≤ 7) (hsf : ∀ p, p < N → sf p < 7) (hs : ∀ p, p < N → σ 33 p = Int32.ofInt (sf p : Int)) (hin : ∀ p, p < N → ∀ c, c < 1 + 1 → ins 1 (sf p) row c < R) (hl : σ 32 1 = Int32.ofInt 1) (hn : σ 32 3 = Int32.ofInt (N : Int)) (hw : ∀ row p, row < R → p < N → zr (W row p) ∧ σ r2 (row * N + p) = Int32.ofInt (W row p)) : ∀ (k p : Nat), p + k = N → Q (some (.int (if ist W 1 sf row k p = true then 1 else 0))) (lo_M n w3 g σ τ r1 r2) →
    am_wp (am_d (d + 1)) T_X2_isStable Q (2, [.ref 32, .int (Int32.ofInt (row : Int)), .int (Int32.ofInt (p : Int))], [], 0, 0) (lo_M n w3 g σ τ r1 r2) := by
  intro k
  induction k with
  | zero =>
    intro p hp h
    refine am_wp_go (am_d_cm _) (fun pc => Nat.beq pc 2) 60 ?_
    refine And.intro (fun c1 => ?_) (fun c1 => absurd ?_ c1)
    · exact And.intro (Or.inr rfl) h
    · show σ 32 3 ≤ Int32.ofInt (p : Int)
      rw [hn, zle (by unfold zr; omega) (by unfold zr; omega)]
      omega
  | succ k ih =>
    intro p hp h
    refine am_wp_go (am_d_cm _) (fun pc => Nat.beq pc 2) 60 ?_
    refine And.intro (fun c1 => ?_) (fun c1 => ?_)
    · have c1 : σ 32 3 ≤ Int32.ofInt (p : Int) := c1
      rw [hn, zle (by unfold zr; omega) (by unfold zr; omega)] at c1
      omega
    · unfold ist at h
      refine s_wouldLeaveC d _ hk hW hRN hrow hR (show p < N by omega) hN (hsf p (by omega)) (hs p (by omega)) (hin p (by omega)) hl hn hw ?_
      by_cases c2 : wlv W 1 (sf p) row p (1 + 1) 0 = true
      · rw [if_pos c2]
        rw [if_pos c2] at h
        refine And.intro (fun q => absurd q (by decide)) (fun _ => ?_)
        exact And.intro (Or.inl rfl) h
      · rw [if_neg c2]
        rw [if_neg c2] at h
        refine And.intro (fun _ => ?_) (fun q => absurd rfl q)
        have key := ih (p + 1) (by omega) h
        rw [show (((p + 1 : Nat) : Int)) = (p : Int) + 1 by omega, ← zadd (p : Int)] at key
        exact key
set_option maxRecDepth 100000 in
theorem s_settle_loopC (d : Nat) (Q : am_Q) {N Wn R : Nat} {sf : Nat → Nat} {W : Nat → Nat → Int} (hgr : ∀ c, c < 77 → c ≠ 34 → c ≠ r2) (hk : lo_sh w3 g r2 = (0, Wn)) (hW : Wn ≤ 2147483648) (hRN : R * N ≤ Wn) (hR : R ≤ 128) (hN : N ≤ 7) (hsf : ∀ p, p < N → sf p < 7) (hin : ∀ row, row < R → ∀ p, p < N → ∀ c, c < 1 + 1 → ins 1 (sf p) row c < R) : ∀ (k row : Nat) (x : Nat × Int) (σ : Nat → Nat → Int32), row + k = R → (∀ p, p < N → σ 33 p = Int32.ofInt (sf p : Int)) → σ 32 1 = Int32.ofInt 1 → σ 32 3 = Int32.ofInt (N : Int) → σ 32 5 = Int32.ofInt (R : Int) → (∀ row p, row < R → p < N → zr (W row p) ∧ σ r2 (row * N + p) = Int32.ofInt (W row p)) → x.1 ≤ row → σ 32 6 = Int32.ofInt (x.1 : Int) → σ 32 7 = Int32.ofInt x.2 →
    (∀ σ' : Nat → Nat → Int32, (∀ c, c ≠ 32 → σ' c = σ c) → (∀ i, i ≠ 6 → i ≠ 7 → σ' 32 i = σ 32 i) → σ' 32 6 = Int32.ofInt ((stl (fun row => ist W 1 sf row N 0) k row x).1 : Int) → σ' 32 7 = Int32.ofInt (stl (fun row => ist W 1 sf row N 0) k row x).2 → Q none (lo_M n w3 g σ' τ r1 r2)) →
    am_wp (am_d (d + 2)) T_X2_settle Q (12, [.ref 32, .int (Int32.ofInt (row : Int))], [], 0, 0) (lo_M n w3 g σ τ r1 r2) := by
  intro k
  induction k with
  | zero =>
    intro row x σ hrow hs hl hn h5 hw hx1 h6 h7 h
    refine am_wp_go (am_d_cm _) (fun pc => Nat.beq pc 12) 60 ?_
    refine And.intro (fun c1 => ?_) (fun c1 => absurd ?_ c1)
    · exact h σ (fun _ _ => rfl) (fun _ _ _ => rfl) h6 h7
    · show σ 32 5 ≤ Int32.ofInt (row : Int)
      rw [h5, zle (by unfold zr; omega) (by unfold zr; omega)]
      omega
  | succ k ih =>
    intro row x σ hrow hs hl hn h5 hw hx1 h6 h7 h
    have hG : 32 ≠ r2 := hgr 32 (by omega) (by omega)
    have hrl : row < R := by omega
    have eu : ∀ c v σ, σ r2 = (am_u σ 32 c v : Nat → Nat → Int32) r2 := fun c v σ => (am_u_ne (Ne.symm hG)).symm
    refine am_wp_go (am_d_cm _) (fun pc => Nat.beq pc 12) 60 ?_
    refine And.intro (fun c1 => ?_) (fun c1 => ?_)
    · have c1 : σ 32 5 ≤ Int32.ofInt (row : Int) := c1
      rw [h5, zle (by unfold zr; omega) (by unfold zr; omega)] at c1
      omega
    · refine am_goT (d := d + 1) (k := 15) T_X2_isStable [.ref 32, .int (Int32.ofInt (row : Int)), .null] rfl rfl (fun pc => Nat.beq pc 2) 60 ?_
      refine s_isStable_loopC d _ hk hW hRN hrl hR hN hsf hs (hin row hrl) hl hn hw N 0 (by omega) ?_
      have er : Int32.ofInt (row : Int) + Int32.ofInt 1 = Int32.ofInt ((row + 1 : Nat) : Int) := by
        rw [zadd]
        congr 1
      by_cases c2 : ist W 1 sf row N 0 = true
      · rw [if_pos c2]
        refine And.intro (fun q => absurd q (by decide)) (fun _ => ?_)
        have e1 : σ 32 6 + Int32.ofInt 1 = Int32.ofInt ((x.1 + 1 : Nat) : Int) := by
          rw [h6, zadd]
          congr 1
        have st : stl (fun row => ist W 1 sf row N 0) (k + 1) row x = stl (fun row => ist W 1 sf row N 0) k (row + 1) (x.1 + 1, if x.1 = 0 then (row : Int) else x.2) := by
          show stl _ k (row + 1) (if _ then _ else _) = _
          rw [if_pos c2]
        rw [st] at h
        refine And.intro (fun c3 => ?_) (fun c3 => ?_)
        · have c3 : σ 32 6 = 0 := c3
          rw [h6, zeq0 (by unfold zr; omega)] at c3
          have hx0 : x.1 = 0 := by omega
          rw [if_pos hx0] at h
          have key := ih (row + 1) (x.1 + 1, (row : Int)) (am_u (am_u σ 32 7 (Int32.ofInt (row : Int))) 32 6 (Int32.ofInt ((x.1 + 1 : Nat) : Int))) (by omega) hs hl hn h5 (fun a b ha hb => by rw [← eu, ← eu]; exact hw a b ha hb) (by dsimp only; omega) rfl rfl (fun σ' k1 k2 k3 k4 => h σ' (fun c e => by rw [k1 c e, am_u_ne e, am_u_ne e]) (fun i e1 e2 => by rw [k2 i e1 e2, am_u_at, if_neg e1, am_u_at, if_neg e2]) k3 k4)
          rw [← er, ← e1] at key
          exact key
        · have c3 : ¬ σ 32 6 = 0 := c3
          rw [h6, zeq0 (by unfold zr; omega)] at c3
          rw [if_neg (by omega)] at h
          have key := ih (row + 1) (x.1 + 1, x.2) (am_u σ 32 6 (Int32.ofInt ((x.1 + 1 : Nat) : Int))) (by omega) hs hl hn h5 (fun a b ha hb => by rw [← eu]; exact hw a b ha hb) (by dsimp only; omega) rfl h7 (fun σ' k1 k2 k3 k4 => h σ' (fun c e => by rw [k1 c e, am_u_ne e]) (fun i e1 e2 => by rw [k2 i e1 e2, am_u_at, if_neg e1]) k3 k4)
          rw [← er, ← e1] at key
          exact key
      · rw [if_neg c2]
        refine And.intro (fun _ => ?_) (fun q => absurd rfl q)
        have st : stl (fun row => ist W 1 sf row N 0) (k + 1) row x = stl (fun row => ist W 1 sf row N 0) k (row + 1) x := by
          show stl _ k (row + 1) (if _ then _ else _) = _
          rw [if_neg c2]
        rw [st] at h
        have key := ih (row + 1) x σ (by omega) hs hl hn h5 hw (by omega) h6 h7 h
        rw [← er] at key
        exact key
set_option maxRecDepth 100000 in
theorem s_settleC (d : Nat) (Q : am_Q) {N Wn R : Nat} {sf : Nat → Nat} {W : Nat → Nat → Int} (hgr : ∀ c, c < 77 → c ≠ 34 → c ≠ r2) (hk : lo_sh w3 g r2 = (0, Wn)) (hW : Wn ≤ 2147483648) (hRN : R * N ≤ Wn) (hR : R ≤ 128) (hN : N ≤ 7) (hsf : ∀ p, p < N → sf p < 7) (hin : ∀ row, row < R → ∀ p, p < N → ∀ c, c < 1 + 1 → ins 1 (sf p) row c < R) (hs : ∀ p, p < N → σ 33 p = Int32.ofInt (sf p : Int)) (hl : σ 32 1 = Int32.ofInt 1) (hn : σ 32 3 = Int32.ofInt (N : Int)) (h5 : σ 32 5 = Int32.ofInt (R : Int)) (hw : ∀ row p, row < R → p < N → zr (W row p) ∧ σ r2 (row * N + p) = Int32.ofInt (W row p))
    (h : ∀ σ' : Nat → Nat → Int32, (∀ c, c ≠ 32 → σ' c = σ c) → (∀ i, i ≠ 6 → i ≠ 7 → σ' 32 i = σ 32 i) → σ' 32 6 = Int32.ofInt ((stl (fun row => ist W 1 sf row N 0) R 0 (0, -1)).1 : Int) → σ' 32 7 = Int32.ofInt (stl (fun row => ist W 1 sf row N 0) R 0 (0, -1)).2 → Q none (lo_M n w3 g σ' τ r1 r2)) : am_d (d + 3) 14 [.ref 32] 0 0 (lo_M n w3 g σ τ r1 r2) Q := by
  have hG : 32 ≠ r2 := hgr 32 (by omega) (by omega)
  have eu : ∀ c v σ, σ r2 = (am_u σ 32 c v : Nat → Nat → Int32) r2 := fun c v σ => (am_u_ne (Ne.symm hG)).symm
  refine am_goT T_X2_settle [.ref 32, .null] rfl rfl (fun pc => Nat.beq pc 12) 60 ?_
  exact s_settle_loopC d Q hgr hk hW hRN hR hN hsf hin R 0 (0, -1) (am_u (am_u σ 32 6 (Int32.ofInt 0)) 32 7 (Int32.ofInt (-1))) (by omega) hs hl hn h5 (fun a b ha hb => by rw [← eu, ← eu]; exact hw a b ha hb) (Nat.le_refl _) rfl rfl (fun σ' k1 k2 k3 k4 => h σ' (fun c e => by rw [k1 c e, am_u_ne e, am_u_ne e]) (fun i e1 e2 => by rw [k2 i e1 e2, am_u_at, if_neg e2, am_u_at, if_neg e1]) k3 k4)
end GAC
end
section
/-! a row is made: where things lie then -/
theorem lo_new {n w3 k : Nat} {g : Nat → Nat × Nat} (h : 77 ≤ n) : (fun c => if c = n then (0, k) else lo_sh w3 g c) = lo_sh w3 (fun c => if c = n then (0, k) else g c) := by
  funext c
  unfold lo_sh
  by_cases e : c = n
  · subst e
    have hb : Nat.blt c 77 = false := by
      cases q : Nat.blt c 77 with
      | false => rfl
      | true => have := Nat.le_of_ble_eq_true q; omega
    rw [if_pos rfl, hb]
    dsimp only
    rw [if_pos rfl]
  · rw [if_neg e]
    dsimp only
    rw [if_neg e]
theorem lo_rho1 : ∀ c, c ≠ 29 → ∀ (a b r2 i : Nat), lo_rho a r2 c i = lo_rho b r2 c i
  | 0, _, _, _, _, _ => rfl
  | 1, _, _, _, _, _ => rfl
  | 2, _, _, _, _, _ => rfl
  | 3, _, _, _, _, _ => rfl
  | 4, _, _, _, _, _ => rfl
  | 5, _, _, _, _, _ => rfl
  | 6, _, _, _, _, _ => rfl
  | 7, _, _, _, _, _ => rfl
  | 8, _, _, _, _, _ => rfl
  | 9, _, _, _, _, _ => rfl
  | 10, _, _, _, _, _ => rfl
  | 11, _, _, _, _, _ => rfl
  | 12, _, _, _, _, _ => rfl
  | 13, _, _, _, _, _ => rfl
  | 14, _, _, _, _, _ => rfl
  | 15, _, _, _, _, _ => rfl
  | 16, _, _, _, _, _ => rfl
  | 17, _, _, _, _, _ => rfl
  | 18, _, _, _, _, _ => rfl
  | 19, _, _, _, _, _ => rfl
  | 20, _, _, _, _, _ => rfl
  | 21, _, _, _, _, _ => rfl
  | 22, _, _, _, _, _ => rfl
  | 23, _, _, _, _, _ => rfl
  | 24, _, _, _, _, _ => rfl
  | 25, _, _, _, _, _ => rfl
  | 26, _, _, _, _, _ => rfl
  | 27, _, _, _, _, _ => rfl
  | 28, _, _, _, _, _ => rfl
  | 29, h, _, _, _, _ => absurd rfl h
  | 30, _, _, _, _, _ => rfl
  | 31, _, _, _, _, _ => rfl
  | 32, _, _, _, _, _ => rfl
  | 33, _, _, _, _, _ => rfl
  | 34, _, _, _, _, _ => rfl
  | 35, _, _, _, _, _ => rfl
  | 36, _, _, _, _, _ => rfl
  | 37, _, _, _, _, _ => rfl
  | 38, _, _, _, _, _ => rfl
  | 39, _, _, _, _, _ => rfl
  | 40, _, _, _, _, _ => rfl
  | 41, _, _, _, _, _ => rfl
  | 42, _, _, _, _, _ => rfl
  | 43, _, _, _, _, _ => rfl
  | 44, _, _, _, _, _ => rfl
  | 45, _, _, _, _, _ => rfl
  | 46, _, _, _, _, _ => rfl
  | 47, _, _, _, _, _ => rfl
  | 48, _, _, _, _, _ => rfl
  | 49, _, _, _, _, _ => rfl
  | 50, _, _, _, _, _ => rfl
  | 51, _, _, _, _, _ => rfl
  | 52, _, _, _, _, _ => rfl
  | 53, _, _, _, _, _ => rfl
  | 54, _, _, _, _, _ => rfl
  | 55, _, _, _, _, _ => rfl
  | 56, _, _, _, _, _ => rfl
  | 57, _, _, _, _, _ => rfl
  | 58, _, _, _, _, _ => rfl
  | 59, _, _, _, _, _ => rfl
  | 60, _, _, _, _, _ => rfl
  | 61, _, _, _, _, _ => rfl
  | 62, _, _, _, _, _ => rfl
  | 63, _, _, _, _, _ => rfl
  | 64, _, _, _, _, _ => rfl
  | 65, _, _, _, _, _ => rfl
  | 66, _, _, _, _, _ => rfl
  | 67, _, _, _, _, _ => rfl
  | 68, _, _, _, _, _ => rfl
  | 69, _, _, _, _, _ => rfl
  | 70, _, _, _, _, _ => rfl
  | 71, _, _, _, _, _ => rfl
  | 72, _, _, _, _, _ => rfl
  | 73, _, _, _, _, _ => rfl
  | 74, _, _, _, _, _ => rfl
  | 75, _, _, _, _, _ => rfl
  | 76, _, _, _, _, _ => rfl
  | _ + 77, _, _, _, _, _ => rfl
theorem lo_rho2 : ∀ c, c ≠ 32 → ∀ (r1 a b i : Nat), lo_rho r1 a c i = lo_rho r1 b c i
  | 0, _, _, _, _, _ => rfl
  | 1, _, _, _, _, _ => rfl
  | 2, _, _, _, _, _ => rfl
  | 3, _, _, _, _, _ => rfl
  | 4, _, _, _, _, _ => rfl
  | 5, _, _, _, _, _ => rfl
  | 6, _, _, _, _, _ => rfl
  | 7, _, _, _, _, _ => rfl
  | 8, _, _, _, _, _ => rfl
  | 9, _, _, _, _, _ => rfl
  | 10, _, _, _, _, _ => rfl
  | 11, _, _, _, _, _ => rfl
  | 12, _, _, _, _, _ => rfl
  | 13, _, _, _, _, _ => rfl
  | 14, _, _, _, _, _ => rfl
  | 15, _, _, _, _, _ => rfl
  | 16, _, _, _, _, _ => rfl
  | 17, _, _, _, _, _ => rfl
  | 18, _, _, _, _, _ => rfl
  | 19, _, _, _, _, _ => rfl
  | 20, _, _, _, _, _ => rfl
  | 21, _, _, _, _, _ => rfl
  | 22, _, _, _, _, _ => rfl
  | 23, _, _, _, _, _ => rfl
  | 24, _, _, _, _, _ => rfl
  | 25, _, _, _, _, _ => rfl
  | 26, _, _, _, _, _ => rfl
  | 27, _, _, _, _, _ => rfl
  | 28, _, _, _, _, _ => rfl
  | 29, _, _, _, _, _ => rfl
  | 30, _, _, _, _, _ => rfl
  | 31, _, _, _, _, _ => rfl
  | 32, h, _, _, _, _ => absurd rfl h
  | 33, _, _, _, _, _ => rfl
  | 34, _, _, _, _, _ => rfl
  | 35, _, _, _, _, _ => rfl
  | 36, _, _, _, _, _ => rfl
  | 37, _, _, _, _, _ => rfl
  | 38, _, _, _, _, _ => rfl
  | 39, _, _, _, _, _ => rfl
  | 40, _, _, _, _, _ => rfl
  | 41, _, _, _, _, _ => rfl
  | 42, _, _, _, _, _ => rfl
  | 43, _, _, _, _, _ => rfl
  | 44, _, _, _, _, _ => rfl
  | 45, _, _, _, _, _ => rfl
  | 46, _, _, _, _, _ => rfl
  | 47, _, _, _, _, _ => rfl
  | 48, _, _, _, _, _ => rfl
  | 49, _, _, _, _, _ => rfl
  | 50, _, _, _, _, _ => rfl
  | 51, _, _, _, _, _ => rfl
  | 52, _, _, _, _, _ => rfl
  | 53, _, _, _, _, _ => rfl
  | 54, _, _, _, _, _ => rfl
  | 55, _, _, _, _, _ => rfl
  | 56, _, _, _, _, _ => rfl
  | 57, _, _, _, _, _ => rfl
  | 58, _, _, _, _, _ => rfl
  | 59, _, _, _, _, _ => rfl
  | 60, _, _, _, _, _ => rfl
  | 61, _, _, _, _, _ => rfl
  | 62, _, _, _, _, _ => rfl
  | 63, _, _, _, _, _ => rfl
  | 64, _, _, _, _, _ => rfl
  | 65, _, _, _, _, _ => rfl
  | 66, _, _, _, _, _ => rfl
  | 67, _, _, _, _, _ => rfl
  | 68, _, _, _, _, _ => rfl
  | 69, _, _, _, _, _ => rfl
  | 70, _, _, _, _, _ => rfl
  | 71, _, _, _, _, _ => rfl
  | 72, _, _, _, _, _ => rfl
  | 73, _, _, _, _, _ => rfl
  | 74, _, _, _, _, _ => rfl
  | 75, _, _, _, _, _ => rfl
  | 76, _, _, _, _, _ => rfl
  | _ + 77, _, _, _, _, _ => rfl
theorem lo_rho_u1 (r1 r2 m : Nat) : am_u (lo_rho r1 r2) 29 4 (some m) = lo_rho m r2 := by
  funext c i
  unfold am_u
  by_cases e : c = 29
  · subst e
    rw [if_pos rfl]
    by_cases e2 : i = 4
    · subst e2
      rw [if_pos rfl]
      rfl
    · rw [if_neg e2]
      rcases (show i = 0 ∨ i = 1 ∨ i = 2 ∨ i = 3 ∨ 5 ≤ i by omega) with rfl | rfl | rfl | rfl | h
      · rfl
      · rfl
      · rfl
      · rfl
      · obtain ⟨j, rfl⟩ : ∃ j, i = j + 5 := ⟨i - 5, by omega⟩
        rfl
  · rw [if_neg e]
    exact lo_rho1 c e r1 m r2 i
theorem lo_rho_u2 (r1 r2 m : Nat) : am_u (lo_rho r1 r2) 32 4 (some m) = lo_rho r1 m := by
  funext c i
  unfold am_u
  by_cases e : c = 32
  · subst e
    rw [if_pos rfl]
    by_cases e2 : i = 4
    · subst e2
      rw [if_pos rfl]
      rfl
    · rw [if_neg e2]
      rcases (show i = 0 ∨ i = 1 ∨ i = 2 ∨ i = 3 ∨ 5 ≤ i by omega) with rfl | rfl | rfl | rfl | h
      · rfl
      · rfl
      · rfl
      · rfl
      · obtain ⟨j, rfl⟩ : ∃ j, i = j + 5 := ⟨i - 5, by omega⟩
        rfl
  · rw [if_neg e]
    exact lo_rho2 c e r1 r2 m i
/-- where the two rows of what each has lie, and how long they are -/
def LZ (n w3 : Nat) (g : Nat → Nat × Nat) (r1 r2 W1 W2 : Nat) : Prop := 77 ≤ n ∧ ((r1 = 31 ∨ 77 ≤ r1) ∧ r1 < n) ∧ ((r2 = 34 ∨ 77 ≤ r2) ∧ r2 < n) ∧ r1 ≠ r2 ∧ lo_sh w3 g r1 = (0, W1) ∧ lo_sh w3 g r2 = (0, W2) ∧ W1 ≤ 24576 ∧ W2 ≤ 896
theorem lo_shn {n w3 k : Nat} {g : Nat → Nat × Nat} (h : 77 ≤ n) : lo_sh w3 (fun c => if c = n then (0, k) else g c) n = (0, k) := by
  rw [← lo_new h]
  dsimp only
  rw [if_pos rfl]
theorem lo_sho {n w3 k c : Nat} {g : Nat → Nat × Nat} (h : 77 ≤ n) (hc : c ≠ n) : lo_sh w3 (fun c => if c = n then (0, k) else g c) c = lo_sh w3 g c := by
  rw [← lo_new h]
  dsimp only
  rw [if_neg hc]
theorem LZ_r1 {n w3 : Nat} {g : Nat → Nat × Nat} {r1 r2 W1 W2 : Nat} (h : LZ n w3 g r1 r2 W1 W2) : ∀ c, c < 77 → c ≠ 31 → c ≠ r1 := fun c h1 h2 e => by
  rcases h.2.1.1 with q | q <;> omega
theorem LZ_r2 {n w3 : Nat} {g : Nat → Nat × Nat} {r1 r2 W1 W2 : Nat} (h : LZ n w3 g r1 r2 W1 W2) : ∀ c, c < 77 → c ≠ 34 → c ≠ r2 := fun c h1 h2 e => by
  rcases h.2.2.1.1 with q | q <;> omega
theorem rowsR : ∀ N : Nat, N < 7 → Int32.ofInt 1 <<< ((Int32.ofInt 2 * Int32.ofInt (N : Int)) &&& 31) = Int32.ofInt ((4 ^ N : Nat) : Int) ∧ 4 ^ N * N ≤ 24576 ∧ 4 ^ N ≤ 4096 := by decide +kernel
theorem rowsC : ∀ N : Nat, N < 8 → Int32.ofInt 1 <<< ((Int32.ofInt 1 * Int32.ofInt (N : Int)) &&& 31) = Int32.ofInt ((2 ^ N : Nat) : Int) ∧ 2 ^ N * N ≤ 896 ∧ 2 ^ N ≤ 128 := by decide +kernel
/-! open, cell 29 -/
section OPR
variable {n w3 : Nat} {g : Nat → Nat × Nat} {τ : Nat → Nat → Int64} {r1 r2 : Nat}
set_option maxHeartbeats 1000000 in
set_option maxRecDepth 100000 in
theorem s_open_loopR (d : Nat) (Q : am_Q) {N W1 W2 bc bs : Nat} (hN : N < 7) (hz : LZ n w3 g r1 r2 W1 W2) (hbud : W1 < 4 ^ N * N → 1 ≤ bc ∧ 4 ^ N * N ≤ bs) : ∀ (k p : Nat) (σ : Nat → Nat → Int32), p + k = N → σ 29 0 = Int32.ofInt 2 → (∀ q, q < p → σ 30 q = Int32.ofInt ((2 * (N - 1 - q) : Nat) : Int)) →
    (∀ (n' : Nat) (g' : Nat → Nat × Nat) (r' : Nat) (σ' : Nat → Nat → Int32), LZ n' w3 g' r' r2 (max W1 (4 ^ N * N)) W2 → 4 ^ N * N ≤ max W1 (4 ^ N * N) → (∀ c, c < 77 → c ≠ 29 → c ≠ 30 → σ' c = σ c) → (∀ i, i ≠ 5 → σ' 29 i = σ 29 i) → σ' 29 5 = Int32.ofInt ((4 ^ N : Nat) : Int) → (∀ q, q < N → σ' 30 q = Int32.ofInt ((2 * (N - 1 - q) : Nat) : Int)) → Q none (lo_M n' w3 g' σ' τ r' r2)) →
    am_wp (am_d d) T_X2_open Q (7, [.ref 29, .int (Int32.ofInt (N : Int)), .int (Int32.ofInt 1), .int (Int32.ofInt (p : Int))], [], bc, bs) (lo_M n w3 g σ τ r1 r2) := by
  obtain ⟨h77, hr1, hr2, hne, hk1, hk2, hW1, hW2⟩ := id hz
  intro k
  induction k with
  | zero =>
    intro p σ hp hb hs h
    obtain ⟨e1, e2, e3⟩ := rowsR N (by omega)
    have hpN : p = N := by omega
    have eR : Int32.ofInt 1 <<< ((σ 29 0 * Int32.ofInt (N : Int)) &&& 31) = Int32.ofInt ((4 ^ N : Nat) : Int) := by rw [hb, e1]
    refine am_wp_go (am_d_cm _) (fun pc => Nat.beq pc 7) 60 ?_
    refine And.intro (fun c1 => ?_) (fun c1 => absurd ?_ c1)
    · refine wal (r := r1) (W := W1) hk1 ?_
      have eM : (Int32.ofInt 1 <<< ((σ 29 0 * Int32.ofInt (N : Int)) &&& 31)) * Int32.ofInt (N : Int) = Int32.ofInt ((4 ^ N * N : Nat) : Int) := by
        rw [eR, zmul, ← Int.natCast_mul]
      have eL : Int32.ofNat (lo_sh w3 g r1).2 = Int32.ofInt (W1 : Int) := by
        rw [hk1, zN]
        rfl
      have eC : (Int32.ofInt ((4 ^ N * N : Nat) : Int)).toNatClampNeg = 4 ^ N * N := zcl rfl (by omega)
      refine And.intro (fun c2 => ?_) (fun c2 => ?_)
      · have c2 : (Int32.ofInt 1 <<< ((σ 29 0 * Int32.ofInt (N : Int)) &&& 31)) * Int32.ofInt (N : Int) ≤ Int32.ofNat (lo_sh w3 g r1).2 := c2
        rw [eM, eL, zle (by unfold zr; omega) (by unfold zr; omega)] at c2
        have h := h n g r1 (am_u σ 29 5 (Int32.ofInt ((4 ^ N : Nat) : Int))) (by rw [show max W1 (4 ^ N * N) = W1 by omega]; exact hz) (by omega) (fun c _ e _ => am_u_ne e) (fun i e => by rw [am_u_at, if_neg e]) (by rw [am_u_at, if_pos rfl]) (fun q hq => by rw [am_u_ne (by decide)]; exact hs q (by omega))
        rw [← eR] at h
        exact h
      · have c2 : ¬ (Int32.ofInt 1 <<< ((σ 29 0 * Int32.ofInt (N : Int)) &&& 31)) * Int32.ofInt (N : Int) ≤ Int32.ofNat (lo_sh w3 g r1).2 := c2
        rw [eM, eL, zle (by unfold zr; omega) (by unfold zr; omega)] at c2
        obtain ⟨b1, b2⟩ := hbud (by omega)
        have h := h (n + 1) (fun c => if c = n then (0, 4 ^ N * N) else g c) n (am_ur (am_u σ 29 5 (Int32.ofInt ((4 ^ N : Nat) : Int))) n (fun _ => 0)) (by
          rw [show max W1 (4 ^ N * N) = 4 ^ N * N by omega]
          exact ⟨by omega, ⟨Or.inr (by omega), by omega⟩, ⟨hr2.1, by omega⟩, by omega, lo_shn h77, by rw [lo_sho h77 (by omega)]; exact hk2, by omega, hW2⟩) (by omega) (fun c e0 e _ => by rw [am_ur_ne (by omega), am_u_ne e]) (fun i e => by rw [am_ur_ne (by omega), am_u_at, if_neg e]) (by rw [am_ur_ne (by omega), am_u_at, if_pos rfl]) (fun q hq => by rw [am_ur_ne (by omega), am_u_ne (by decide)]; exact hs q (by omega))
        unfold lo_M at h
        rw [← lo_rho_u1 r1 r2 n, ← eC, ← eM, ← eR] at h
        refine And.intro b1 (And.intro ?_ (And.intro ?_ (And.intro ?_ ?_)))
        · show ¬ (Int32.ofInt 1 <<< ((σ 29 0 * Int32.ofInt (N : Int)) &&& 31)) * Int32.ofInt (N : Int) < 0
          rw [eM, zlt0 (by unfold zr; omega)]
          omega
        · show ((Int32.ofInt 1 <<< ((σ 29 0 * Int32.ofInt (N : Int)) &&& 31)) * Int32.ofInt (N : Int)).toNatClampNeg ≤ bs
          rw [eM, eC]
          exact b2
        · show ((Int32.ofInt 1 <<< ((σ 29 0 * Int32.ofInt (N : Int)) &&& 31)) * Int32.ofInt (N : Int)).toNatClampNeg ≤ 100000000
          rw [eM, eC]
          omega
        · show am_run _ _ _ _ _ _ (77, [.ref 29, .int (Int32.ofInt (N : Int)), .int (Int32.ofInt 1), .int (Int32.ofInt (p : Int))], [.ref n, .ref 29], _, _) (n + 1, (fun c => if c = n then (0, ((Int32.ofInt 1 <<< ((σ 29 0 * Int32.ofInt (N : Int)) &&& 31)) * Int32.ofInt (N : Int)).toNatClampNeg) else lo_sh w3 g c), am_ur (am_u σ 29 5 (Int32.ofInt 1 <<< ((σ 29 0 * Int32.ofInt (N : Int)) &&& 31))) n (fun _ => 0), τ, lo_rho r1 r2)
          rw [lo_new h77]
          exact h
    · rw [zle (by unfold zr; omega) (by unfold zr; omega)]
      omega
  | succ k ih =>
    intro p σ hp hb hs h
    refine am_wp_go (am_d_cm _) (fun pc => Nat.beq pc 7) 60 ?_
    refine And.intro (fun c1 => ?_) (fun c1 => ?_)
    · rw [zle (by unfold zr; omega) (by unfold zr; omega)] at c1
      omega
    · refine And.intro (fun q => absurd q (by decide)) (fun _ => ?_)
      refine ixi p 7 (by omega) ?_
      have e : σ 29 0 * (Int32.ofInt (N : Int) - Int32.ofInt 1 - Int32.ofInt (p : Int)) = Int32.ofInt ((2 * (N - 1 - p) : Nat) : Int) := by
        rw [hb, zsub, zsub, zmul]
        congr 1
        omega
      show am_wp _ _ _ (7, [.ref 29, .int (Int32.ofInt (N : Int)), .int (Int32.ofInt 1), .int (Int32.ofInt (p : Int) + Int32.ofInt 1)], [], bc, bs) (lo_M n w3 g (am_u σ 30 p (σ 29 0 * (Int32.ofInt (N : Int) - Int32.ofInt 1 - Int32.ofInt (p : Int)))) τ r1 r2)
      rw [e, zadd, show ((p : Int) + 1) = ((p + 1 : Nat) : Int) by omega]
      refine ih (p + 1) _ (by omega) hb (fun q hq => ?_) (fun n' g' r' σ' k1 k2 k3 k4 k5 k6 => h n' g' r' σ' k1 k2 (fun c e0 e1 e2 => by rw [k3 c e0 e1 e2, am_u_ne e2]) (fun i hi => by rw [k4 i hi, am_u_ne (by decide)]) k5 k6)
      rw [am_u_at]
      by_cases eq : q = p
      · subst eq
        rw [if_pos rfl]
      · rw [if_neg eq]
        exact hs q (by omega)
set_option maxRecDepth 100000 in
theorem s_openR (d : Nat) (Q : am_Q) {N W1 W2 bc bs : Nat} {σ : Nat → Nat → Int32} (hN : N < 7) (hz : LZ n w3 g r1 r2 W1 W2) (hbud : W1 < 4 ^ N * N → 1 ≤ bc ∧ 4 ^ N * N ≤ bs) (hb : σ 29 0 = Int32.ofInt 2)
    (h : ∀ (n' : Nat) (g' : Nat → Nat × Nat) (r' : Nat) (σ' : Nat → Nat → Int32), LZ n' w3 g' r' r2 (max W1 (4 ^ N * N)) W2 → 4 ^ N * N ≤ max W1 (4 ^ N * N) → (∀ c, c < 77 → c ≠ 29 → c ≠ 30 → σ' c = σ c) → (∀ i, i ≠ 5 → i ≠ 3 → σ' 29 i = σ 29 i) → σ' 29 3 = Int32.ofInt (N : Int) → σ' 29 5 = Int32.ofInt ((4 ^ N : Nat) : Int) → (∀ q, q < N → σ' 30 q = Int32.ofInt ((2 * (N - 1 - q) : Nat) : Int)) → Q none (lo_M n' w3 g' σ' τ r' r2)) :
    am_d (d + 1) 11 [.ref 29, .int (Int32.ofInt (N : Int)), .int (Int32.ofInt 1)] bc bs (lo_M n w3 g σ τ r1 r2) Q := by
  refine am_goT T_X2_open [.ref 29, .int (Int32.ofInt (N : Int)), .int (Int32.ofInt 1), .null] rfl rfl (fun pc => Nat.beq pc 7) 60 ?_
  exact s_open_loopR d Q hN hz hbud N 0 (am_u σ 29 3 (Int32.ofInt (N : Int))) (by omega) hb (fun q hq => by omega) (fun n' g' r' σ' k1 k2 k3 k4 k5 k6 => h n' g' r' σ' k1 k2 (fun c e0 e1 e2 => by rw [k3 c e0 e1 e2, am_u_ne e1]) (fun i e1 e2 => by rw [k4 i e1, am_u_at, if_neg e2]) (by rw [k4 3 (by decide), am_u_at, if_pos rfl]) k5 k6)
end OPR
/-! open, cell 32 -/
section OPC
variable {n w3 : Nat} {g : Nat → Nat × Nat} {τ : Nat → Nat → Int64} {r1 r2 : Nat}
set_option maxHeartbeats 1000000 in
set_option maxRecDepth 100000 in
theorem s_open_loopC (d : Nat) (Q : am_Q) {N W1 W2 bc bs : Nat} (hN : N < 8) (hz : LZ n w3 g r1 r2 W1 W2) (hbud : W2 < 2 ^ N * N → 1 ≤ bc ∧ 2 ^ N * N ≤ bs) : ∀ (k p : Nat) (σ : Nat → Nat → Int32), p + k = N → σ 32 0 = Int32.ofInt 1 → (∀ q, q < p → σ 33 q = Int32.ofInt ((q : Nat) : Int)) →
    (∀ (n' : Nat) (g' : Nat → Nat × Nat) (r' : Nat) (σ' : Nat → Nat → Int32), LZ n' w3 g' r1 r' W1 (max W2 (2 ^ N * N)) → 2 ^ N * N ≤ max W2 (2 ^ N * N) → (∀ c, c < 77 → c ≠ 32 → c ≠ 33 → σ' c = σ c) → (∀ i, i ≠ 5 → σ' 32 i = σ 32 i) → σ' 32 5 = Int32.ofInt ((2 ^ N : Nat) : Int) → (∀ q, q < N → σ' 33 q = Int32.ofInt ((q : Nat) : Int)) → Q none (lo_M n' w3 g' σ' τ r1 r')) →
    am_wp (am_d d) T_X2_open Q (7, [.ref 32, .int (Int32.ofInt (N : Int)), .int (Int32.ofInt 0), .int (Int32.ofInt (p : Int))], [], bc, bs) (lo_M n w3 g σ τ r1 r2) := by
  obtain ⟨h77, hr1, hr2, hne, hk1, hk2, hW1, hW2⟩ := id hz
  intro k
  induction k with
  | zero =>
    intro p σ hp hb hs h
    obtain ⟨e1, e2, e3⟩ := rowsC N (by omega)
    have hpN : p = N := by omega
    have eR : Int32.ofInt 1 <<< ((σ 32 0 * Int32.ofInt (N : Int)) &&& 31) = Int32.ofInt ((2 ^ N : Nat) : Int) := by rw [hb, e1]
    refine am_wp_go (am_d_cm _) (fun pc => Nat.beq pc 7) 60 ?_
    refine And.intro (fun c1 => ?_) (fun c1 => absurd ?_ c1)
    · refine wal (r := r2) (W := W2) hk2 ?_
      have eM : (Int32.ofInt 1 <<< ((σ 32 0 * Int32.ofInt (N : Int)) &&& 31)) * Int32.ofInt (N : Int) = Int32.ofInt ((2 ^ N * N : Nat) : Int) := by
        rw [eR, zmul, ← Int.natCast_mul]
      have eL : Int32.ofNat (lo_sh w3 g r2).2 = Int32.ofInt (W2 : Int) := by
        rw [hk2, zN]
        rfl
      have eC : (Int32.ofInt ((2 ^ N * N : Nat) : Int)).toNatClampNeg = 2 ^ N * N := zcl rfl (by omega)
      refine And.intro (fun c2 => ?_) (fun c2 => ?_)
      · have c2 : (Int32.ofInt 1 <<< ((σ 32 0 * Int32.ofInt (N : Int)) &&& 31)) * Int32.ofInt (N : Int) ≤ Int32.ofNat (lo_sh w3 g r2).2 := c2
        rw [eM, eL, zle (by unfold zr; omega) (by unfold zr; omega)] at c2
        have h := h n g r2 (am_u σ 32 5 (Int32.ofInt ((2 ^ N : Nat) : Int))) (by rw [show max W2 (2 ^ N * N) = W2 by omega]; exact hz) (by omega) (fun c _ e _ => am_u_ne e) (fun i e => by rw [am_u_at, if_neg e]) (by rw [am_u_at, if_pos rfl]) (fun q hq => by rw [am_u_ne (by decide)]; exact hs q (by omega))
        rw [← eR] at h
        exact h
      · have c2 : ¬ (Int32.ofInt 1 <<< ((σ 32 0 * Int32.ofInt (N : Int)) &&& 31)) * Int32.ofInt (N : Int) ≤ Int32.ofNat (lo_sh w3 g r2).2 := c2
        rw [eM, eL, zle (by unfold zr; omega) (by unfold zr; omega)] at c2
        obtain ⟨b1, b2⟩ := hbud (by omega)
        have h := h (n + 1) (fun c => if c = n then (0, 2 ^ N * N) else g c) n (am_ur (am_u σ 32 5 (Int32.ofInt ((2 ^ N : Nat) : Int))) n (fun _ => 0)) (by
          rw [show max W2 (2 ^ N * N) = 2 ^ N * N by omega]
          exact ⟨by omega, ⟨hr1.1, by omega⟩, ⟨Or.inr (by omega), by omega⟩, by omega, by rw [lo_sho h77 (by omega)]; exact hk1, lo_shn h77, hW1, by omega⟩) (by omega) (fun c e0 e _ => by rw [am_ur_ne (by omega), am_u_ne e]) (fun i e => by rw [am_ur_ne (by omega), am_u_at, if_neg e]) (by rw [am_ur_ne (by omega), am_u_at, if_pos rfl]) (fun q hq => by rw [am_ur_ne (by omega), am_u_ne (by decide)]; exact hs q (by omega))
        unfold lo_M at h
        rw [← lo_rho_u2 r1 r2 n, ← eC, ← eM, ← eR] at h
        refine And.intro b1 (And.intro ?_ (And.intro ?_ (And.intro ?_ ?_)))
        · show ¬ (Int32.ofInt 1 <<< ((σ 32 0 * Int32.ofInt (N : Int)) &&& 31)) * Int32.ofInt (N : Int) < 0
          rw [eM, zlt0 (by unfold zr; omega)]
          omega
        · show ((Int32.ofInt 1 <<< ((σ 32 0 * Int32.ofInt (N : Int)) &&& 31)) * Int32.ofInt (N : Int)).toNatClampNeg ≤ bs
          rw [eM, eC]
          exact b2
        · show ((Int32.ofInt 1 <<< ((σ 32 0 * Int32.ofInt (N : Int)) &&& 31)) * Int32.ofInt (N : Int)).toNatClampNeg ≤ 100000000
          rw [eM, eC]
          omega
        · show am_run _ _ _ _ _ _ (77, [.ref 32, .int (Int32.ofInt (N : Int)), .int (Int32.ofInt 0), .int (Int32.ofInt (p : Int))], [.ref n, .ref 32], _, _) (n + 1, (fun c => if c = n then (0, ((Int32.ofInt 1 <<< ((σ 32 0 * Int32.ofInt (N : Int)) &&& 31)) * Int32.ofInt (N : Int)).toNatClampNeg) else lo_sh w3 g c), am_ur (am_u σ 32 5 (Int32.ofInt 1 <<< ((σ 32 0 * Int32.ofInt (N : Int)) &&& 31))) n (fun _ => 0), τ, lo_rho r1 r2)
          rw [lo_new h77]
          exact h
    · rw [zle (by unfold zr; omega) (by unfold zr; omega)]
      omega
  | succ k ih =>
    intro p σ hp hb hs h
    refine am_wp_go (am_d_cm _) (fun pc => Nat.beq pc 7) 60 ?_
    refine And.intro (fun c1 => ?_) (fun c1 => ?_)
    · rw [zle (by unfold zr; omega) (by unfold zr; omega)] at c1
      omega
    · refine And.intro (fun _ => ?_) (fun q => absurd rfl q)
      refine ixi p 7 (by omega) ?_
      have e : σ 32 0 * Int32.ofInt (p : Int) = Int32.ofInt ((p : Nat) : Int) := by
        rw [hb, zmul]
        congr 1
        omega
      show am_wp _ _ _ (7, [.ref 32, .int (Int32.ofInt (N : Int)), .int (Int32.ofInt 0), .int (Int32.ofInt (p : Int) + Int32.ofInt 1)], [], bc, bs) (lo_M n w3 g (am_u σ 33 p (σ 32 0 * Int32.ofInt (p : Int))) τ r1 r2)
      rw [e, zadd, show ((p : Int) + 1) = ((p + 1 : Nat) : Int) by omega]
      refine ih (p + 1) _ (by omega) hb (fun q hq => ?_) (fun n' g' r' σ' k1 k2 k3 k4 k5 k6 => h n' g' r' σ' k1 k2 (fun c e0 e1 e2 => by rw [k3 c e0 e1 e2, am_u_ne e2]) (fun i hi => by rw [k4 i hi, am_u_ne (by decide)]) k5 k6)
      rw [am_u_at]
      by_cases eq : q = p
      · subst eq
        rw [if_pos rfl]
      · rw [if_neg eq]
        exact hs q (by omega)
set_option maxRecDepth 100000 in
theorem s_openC (d : Nat) (Q : am_Q) {N W1 W2 bc bs : Nat} {σ : Nat → Nat → Int32} (hN : N < 8) (hz : LZ n w3 g r1 r2 W1 W2) (hbud : W2 < 2 ^ N * N → 1 ≤ bc ∧ 2 ^ N * N ≤ bs) (hb : σ 32 0 = Int32.ofInt 1)
    (h : ∀ (n' : Nat) (g' : Nat → Nat × Nat) (r' : Nat) (σ' : Nat → Nat → Int32), LZ n' w3 g' r1 r' W1 (max W2 (2 ^ N * N)) → 2 ^ N * N ≤ max W2 (2 ^ N * N) → (∀ c, c < 77 → c ≠ 32 → c ≠ 33 → σ' c = σ c) → (∀ i, i ≠ 5 → i ≠ 3 → σ' 32 i = σ 32 i) → σ' 32 3 = Int32.ofInt (N : Int) → σ' 32 5 = Int32.ofInt ((2 ^ N : Nat) : Int) → (∀ q, q < N → σ' 33 q = Int32.ofInt ((q : Nat) : Int)) → Q none (lo_M n' w3 g' σ' τ r1 r')) :
    am_d (d + 1) 11 [.ref 32, .int (Int32.ofInt (N : Int)), .int (Int32.ofInt 0)] bc bs (lo_M n w3 g σ τ r1 r2) Q := by
  refine am_goT T_X2_open [.ref 32, .int (Int32.ofInt (N : Int)), .int (Int32.ofInt 0), .null] rfl rfl (fun pc => Nat.beq pc 7) 60 ?_
  exact s_open_loopC d Q hN hz hbud N 0 (am_u σ 32 3 (Int32.ofInt (N : Int))) (by omega) hb (fun q hq => by omega) (fun n' g' r' σ' k1 k2 k3 k4 k5 k6 => h n' g' r' σ' k1 k2 (fun c e0 e1 e2 => by rw [k3 c e0 e1 e2, am_u_ne e1]) (fun i e1 e2 => by rw [k4 i e1, am_u_at, if_neg e2]) (by rw [k4 3 (by decide), am_u_at, if_pos rfl]) k5 k6)
end OPC
end
section
/-! rest: the class -/
/-- how long each waits, by a row -/
def wr (A : aN) (row q : Nat) : Nat := A 3 5 * chc 3 (2 * (cnt A - 1 - q)) row
def Wr (A : aN) (row p : Nat) : Int := HZ A (A 3 1) (fun _ => true) (wr A row) p
def rsf (A : aN) (p : Nat) : Nat := 2 * (cnt A - 1 - p)
def restS (A : aN) : Nat × Int := stl (fun row => ist (Wr A) 3 (rsf A) row (cnt A) 0) (4 ^ cnt A) 0 (0, -1)
/-- the kept answer of REST -/
def KR (A : aN) (σ : Nat → Nat → Int32) : Prop := cnt A ≤ 6 ∧ σ 29 6 = Int32.ofInt ((restS A).1 : Int) ∧ σ 29 7 = Int32.ofInt (restS A).2 ∧ ∀ p, p < cnt A → σ 30 p = Int32.ofInt (rsf A p : Int)
def f_rest (A : aN) (z : Int) : Int := if z ≠ -1 ∧ ¬ (0 ≤ z ∧ z < cnt A) then -2 else if 6 < cnt A then -4 else if z = -1 then ((restS A).1 : Int) else if (restS A).2 = -1 then -1 else (chc 3 (rsf A z.toNat) (restS A).2.toNat : Int)
theorem chc3_lt (sh row : Nat) : chc 3 sh row < 4 := Nat.mod_lt _ (by omega)
theorem wr_le {A : aN} {B : aZ} (hwf : WF A B) (row q : Nat) : wr A row q ≤ 45 := by
  have h5 := hwf.2.2.2.1.2.2.2.2.2.2
  have h3 := chc3_lt (2 * (cnt A - 1 - q)) row
  have : wr A row q ≤ 15 * 3 := Nat.mul_le_mul h5 (by omega)
  omega
theorem IX_fr2 {A : aN} {B : aZ} {σ σ' : Nat → Nat → Int32} (h : IX A B σ) (hf : ∀ c, c < 77 → c ≠ 4 → ¬ scr c → σ' c = σ c) (h4 : σ' 4 13 = σ 4 13) : IX A B σ' := IX_fr h (fun c e1 e2 => hf c (by unfold scr at e2; omega) e1 e2) h4
section RE
variable {n w3 : Nat} {g : Nat → Nat × Nat} {σ : Nat → Nat → Int32} {τ : Nat → Nat → Int64} {r1 r2 : Nat} {A : aN} {B : aZ}
set_option maxHeartbeats 1000000 in
set_option maxRecDepth 100000 in
theorem s_wait_loop (d : Nat) (Q : am_Q) {row : Nat} (hwf : WF A B) (hc6 : cnt A ≤ 6) (hrow : row < 4096) : ∀ (k : Nat) (σ : Nat → Nat → Int32) (x3 : Value), k ≤ cnt A → IX A B σ → (∀ p, p < cnt A → σ 30 p = Int32.ofInt (rsf A p : Int)) → σ 29 1 = Int32.ofInt 3 →
    (row = 0 ∨ ∀ q, q < k → σ 22 q = Int32.ofInt (gin A q (wr A (row - 1) q) : Int)) → (∀ q, k ≤ q → q < cnt A → σ 22 q = Int32.ofInt (gin A q (wr A row q) : Int)) →
    (∀ σ' : Nat → Nat → Int32, (∀ c, c ≠ 22 → σ' c = σ c) → (∀ q, q < cnt A → σ' 22 q = Int32.ofInt (gin A q (wr A row q) : Int)) → Q none (lo_M n w3 g σ' τ r1 r2)) →
    am_wp (am_d (d + 1)) T_X9_waitByRow Q (10, [.ref 4, .int (Int32.ofInt (row : Int)), .int (Int32.ofInt ((k : Int) - 1)), x3], [], 0, 0) (lo_M n w3 g σ τ r1 r2) := by
  intro k
  induction k with
  | zero =>
    intro σ x3 hk hx hs hl ho hg h
    refine am_wp_go (am_d_cm _) (fun pc => Nat.beq pc 10) 60 ?_
    refine And.intro (fun c1 => ?_) (fun c1 => absurd ?_ c1)
    · exact h σ (fun _ _ => rfl) (fun q hq => hg q (by omega) hq)
    · rw [zlt0 (by unfold zr; omega)]
      omega
  | succ k ih =>
    intro σ x3 hk hx hs hl ho hg h
    refine am_wp_go (am_d_cm _) (fun pc => Nat.beq pc 10) 60 ?_
    refine And.intro (fun c1 => ?_) (fun c1 => ?_)
    · rw [zlt0 (by unfold zr; omega)] at c1
      omega
    · have ek : Int32.ofInt (((k + 1 : Nat) : Int) - 1) = Int32.ofInt (k : Int) := by congr 1; omega
      have h3 := chc3_lt (rsf A k) row
      have hw45 := wr_le hwf row k
      have hm := mn_lt (A := A) (p := k) (by omega)
      show am_d (d + 1) 12 [.ref 29, .int (Int32.ofInt (row : Int)), .int (Int32.ofInt (((k + 1 : Nat) : Int) - 1))] 0 0 _ _
      rw [ek]
      refine s_choiceR d _ (p := k) (sh := rsf A k) (by omega) (by omega) (by unfold rsf; omega) (hs k (by omega)) hl ?_
      refine ixi 5 6 (by omega) ?_
      show am_d (d + 1) 95 [.ref 4, .int (Int32.ofInt (k : Int)), .int (σ 12 5 * Int32.ofInt (chc 3 (rsf A k) row : Int))] 0 0 _ _
      have ew : σ 12 5 * Int32.ofInt (chc 3 (rsf A k) row : Int) = Int32.ofInt (wr A row k : Int) := by
        rw [hx.2.2.1 5 (by omega), zmul, ← Int.natCast_mul]
        rfl
      rw [ew]
      refine s_minuteInside d _ (p := k) (by omega) (hx.1.2.2.2.2 k (by omega)).1 (by omega) (by omega) ?_
      refine ixi k 7 (by omega) ?_
      refine And.intro (fun c2 => ?_) (fun c2 => ?_)
      · have c2 : Int32.ofInt (chc 3 (rsf A k) row : Int) = 0 := c2
        show am_wp _ _ _ (10, [.ref 4, .int (Int32.ofInt (row : Int)), .int (Int32.ofInt (k : Int) + Int32.ofInt (-1)), .int (Int32.ofInt (chc 3 (rsf A k) row : Int))], [], 0, 0) (lo_M n w3 g (am_u σ 22 k (Int32.ofInt ((min 59 (mn A k + wr A row k) : Nat) : Int))) τ r1 r2)
        rw [zadd, show (k : Int) + -1 = (k : Int) - 1 by omega]
        refine ih _ _ (by omega) (IX_fr hx (fun c e1 e2 => am_u_ne (fun q => e2 (by subst q; unfold scr; omega))) (by rw [am_u_ne (by decide)])) hs hl ?_ ?_ (fun σ' k1 k2 => h σ' (fun c e => by rw [k1 c e, am_u_ne e]) k2)
        · rcases ho with ho | ho
          · exact Or.inl ho
          · right
            intro q hq
            rw [am_u_at, if_neg (by omega)]
            exact ho q (by omega)
        · intro q q1 q2
          rw [am_u_at]
          by_cases e : q = k
          · subst e
            rw [if_pos rfl]
            rfl
          · rw [if_neg e]
            exact hg q (by omega) q2
      · have c2 : ¬ Int32.ofInt (chc 3 (rsf A k) row : Int) = 0 := c2
        rw [zeq0 (by unfold zr; omega)] at c2
        have hn0 : chc 3 (2 * (cnt A - 1 - k)) row ≠ 0 := by
          intro q
          apply c2
          unfold rsf
          rw [q]
          rfl
        refine h (am_u σ 22 k (Int32.ofInt ((min 59 (mn A k + wr A row k) : Nat) : Int))) (fun c e => am_u_ne e) (fun q hq => ?_)
        rw [am_u_at]
        by_cases e : q = k
        · subst e
          rw [if_pos rfl]
          rfl
        · rw [if_neg e]
          by_cases e2 : k + 1 ≤ q
          · exact hg q e2 hq
          · rcases ho with ho | ho
            · exfalso
              apply hn0
              rw [ho]
              unfold chc
              simp
            · rw [ho q (by omega)]
              unfold wr
              rw [← dig (show cnt A - 1 - k < cnt A - 1 - q by omega) hn0]
set_option maxRecDepth 100000 in
theorem s_waitByRow (d : Nat) (Q : am_Q) {row : Nat} (hwf : WF A B) (hc6 : cnt A ≤ 6) (hrow : row < 4096) (hx : IX A B σ) (hs : ∀ p, p < cnt A → σ 30 p = Int32.ofInt (rsf A p : Int)) (hl : σ 29 1 = Int32.ofInt 3) (ho : row = 0 ∨ ∀ q, q < cnt A → σ 22 q = Int32.ofInt (gin A q (wr A (row - 1) q) : Int))
    (h : ∀ σ' : Nat → Nat → Int32, (∀ c, c ≠ 22 → σ' c = σ c) → (∀ q, q < cnt A → σ' 22 q = Int32.ofInt (gin A q (wr A row q) : Int)) → Q none (lo_M n w3 g σ' τ r1 r2)) : am_d (d + 2) 101 [.ref 4, .int (Int32.ofInt (row : Int))] 0 0 (lo_M n w3 g σ τ r1 r2) Q := by
  refine am_goT T_X9_waitByRow [.ref 4, .int (Int32.ofInt (row : Int)), .null, .null] rfl rfl (fun pc => Nat.beq pc 10) 60 ?_
  have key := s_wait_loop (n := n) (w3 := w3) (g := g) (τ := τ) (r1 := r1) (r2 := r2) d Q hwf hc6 hrow (cnt A) σ .null (Nat.le_refl _) hx hs hl ho (fun q q1 q2 => by omega) h
  rw [← zsub, ← hx.1.2.2.1] at key
  exact key
set_option maxHeartbeats 1000000 in
set_option maxRecDepth 100000 in
theorem s_rest_in (d : Nat) (Q : am_Q) {row W1 W2 bc bs : Nat} (hwf : WF A B) (hz : LZ n w3 g r1 r2 W1 W2) (hrow : row < 4 ^ cnt A) (hW : 4 ^ cnt A * cnt A ≤ W1) : ∀ (k p : Nat) (σ : Nat → Nat → Int32), p + k = cnt A → IX A B σ → (∀ q, q < cnt A → σ 22 q = Int32.ofInt (gin A q (wr A row q) : Int)) → σ 23 5 = Int32.ofInt ((SL A (A 3 1) (fun _ => true) (wr A row)).length : Int) → hol σ 25 0 (SL A (A 3 1) (fun _ => true) (wr A row)) → (∀ q, q < cnt A → σ 24 q = Int32.ofInt (seatZ (SL A (A 3 1) (fun _ => true) (wr A row)) q)) → σ 29 3 = Int32.ofInt (cnt A : Int) →
    (∀ σ' : Nat → Nat → Int32, (∀ c, c < 77 → c ≠ 31 → σ' c = σ c) → (∀ i, σ' r1 i = if row * cnt A + p ≤ i ∧ i < row * cnt A + cnt A then Int32.ofInt (Wr A row (i - row * cnt A)) else σ r1 i) → am_wp (am_d (d + 3)) T_X9_findRest Q (27, [.ref 4, .int (Int32.ofInt (cnt A : Int)), .int (Int32.ofInt ((row + 1 : Nat) : Int)), .int (Int32.ofInt (cnt A : Int))], [], bc, bs) (lo_M n w3 g σ' τ r1 r2)) →
    am_wp (am_d (d + 3)) T_X9_findRest Q (69, [.ref 4, .int (Int32.ofInt (cnt A : Int)), .int (Int32.ofInt (row : Int)), .int (Int32.ofInt (p : Int))], [], bc, bs) (lo_M n w3 g σ τ r1 r2) := by
  have hc := cnt_le A
  obtain ⟨h77, hr1, hr2, hne, hk1, hk2, hW1, hW2⟩ := id hz
  have hnr := LZ_r1 hz
  intro k
  induction k with
  | zero =>
    intro p σ hp hx hg ht hh hs h3 h
    have hpe : p = cnt A := by omega
    subst hpe
    have h := h σ (fun _ _ _ => rfl) (fun i => by rw [if_neg (by omega)])
    rw [show ((row + 1 : Nat) : Int) = (row : Int) + 1 by omega, ← zadd] at h
    refine am_wp_go (am_d_cm _) (fun pc => Nat.beq pc 69 || Nat.beq pc 27) 60 ?_
    refine And.intro (fun c1 => ?_) (fun c1 => absurd ?_ c1)
    · exact h
    · rw [zle (by unfold zr; omega) (by unfold zr; omega)]
      omega
  | succ k ih =>
    intro p σ hp hx hg ht hh hs h3 h
    have hpc : p < cnt A := by omega
    refine am_wp_go (am_d_cm _) (fun pc => Nat.beq pc 69 || Nat.beq pc 27) 60 ?_
    refine And.intro (fun c1 => ?_) (fun c1 => ?_)
    · rw [zle (by unfold zr; omega) (by unfold zr; omega)] at c1
      omega
    · refine ixi p 7 (by omega) ?_
      show am_d (d + 3) 4 [.ref 23, .int (Int32.ofInt (p : Int)), .int (σ 22 p)] 0 0 _ _
      rw [hg p hpc]
      have s7 := seat7 A (A 3 1) (fun _ => true) (wr A row) p
      obtain ⟨hP', hR', hS', hL', hW', hF', hU', hH', hl'⟩ := id hx
      refine s_worthA d (L := SL A (A 3 1) (fun _ => true) (wr A row)) (st := seatZ (SL A (A 3 1) (fun _ => true) (wr A row)) p) _ hwf hpc (by unfold gin; omega) hP' hR' hS' hL' (fun q hq => by have := SL_lt q hq; omega) (SL_len _ _ _ _) ht hh (hs p hpc) s7.1 s7.2 ?_
      refine s_noteR (d + 2) _ (row := row) (p := p) (N := cnt A) hk1 (by omega) (ixlt hrow hpc hW) h3 ?_
      show am_wp _ _ _ (69, [.ref 4, .int (Int32.ofInt (cnt A : Int)), .int (Int32.ofInt (row : Int)), .int (Int32.ofInt (p : Int) + Int32.ofInt 1)], [], bc, bs) (lo_M n w3 g (am_u σ r1 (row * cnt A + p) (Int32.ofInt (Wr A row p))) τ r1 r2)
      rw [zadd, show ((p : Int) + 1) = ((p + 1 : Nat) : Int) by omega]
      have fr : ∀ c, c < 77 → c ≠ 31 → am_u σ r1 (row * cnt A + p) (Int32.ofInt (Wr A row p)) c = σ c := fun c e1 e2 => am_u_ne (hnr c e1 e2)
      refine ih (p + 1) _ (by omega) (IX_fr hx (fun c e1 e2 => am_u_ne (fun q => e2 (by subst q; unfold scr; rcases hr1.1 with q | q <;> omega))) (by rw [fr 4 (by omega) (by omega)])) (by rw [fr 22 (by omega) (by omega)]; exact hg) (by rw [fr 23 (by omega) (by omega)]; exact ht) (by unfold hol; rw [fr 25 (by omega) (by omega)]; exact hh) (by rw [fr 24 (by omega) (by omega)]; exact hs) (by rw [fr 29 (by omega) (by omega)]; exact h3) (fun σ' k1 k2 => h σ' (fun c e1 e2 => by rw [k1 c e1 e2, fr c e1 e2]) (fun i => ?_))
      rw [k2 i, am_u_at]
      by_cases e : i = row * cnt A + p
      · subst e
        rw [if_neg (by omega), if_pos rfl, if_pos (by omega)]
        congr 2
        omega
      · by_cases e2 : row * cnt A + (p + 1) ≤ i ∧ i < row * cnt A + cnt A
        · rw [if_pos e2, if_pos (by omega)]
        · rw [if_neg e2, if_neg e, if_neg (by omega)]
set_option maxHeartbeats 1000000 in
set_option maxRecDepth 100000 in
theorem s_rest_out (d : Nat) (Q : am_Q) {W1 W2 bc bs : Nat} (hwf : WF A B) (hc6 : cnt A ≤ 6) (hz : LZ n w3 g r1 r2 W1 W2) (hW : 4 ^ cnt A * cnt A ≤ W1) : ∀ (k row : Nat) (σ : Nat → Nat → Int32) (x3 : Value), row + k = 4 ^ cnt A → IX A B σ → (∀ p, p < cnt A → σ 30 p = Int32.ofInt (rsf A p : Int)) → σ 29 1 = Int32.ofInt 3 → σ 29 3 = Int32.ofInt (cnt A : Int) → σ 29 5 = Int32.ofInt ((4 ^ cnt A : Nat) : Int) → (row = 0 ∨ ∀ q, q < cnt A → σ 22 q = Int32.ofInt (gin A q (wr A (row - 1) q) : Int)) → (∀ row', row' < row → ∀ p, p < cnt A → σ r1 (row' * cnt A + p) = Int32.ofInt (Wr A row' p)) →
    (∀ σ' : Nat → Nat → Int32, (∀ c, c < 77 → c ≠ 4 → c ≠ 22 → c ≠ 23 → c ≠ 24 → c ≠ 25 → c ≠ 29 → c ≠ 31 → σ' c = σ c) → (∀ i, i ≠ 14 → σ' 4 i = σ 4 i) → σ' 4 14 = Int32.ofInt 1 → (∀ i, i ≠ 6 → i ≠ 7 → σ' 29 i = σ 29 i) → σ' 29 6 = Int32.ofInt ((restS A).1 : Int) → σ' 29 7 = Int32.ofInt (restS A).2 → Q none (lo_M n w3 g σ' τ r1 r2)) →
    am_wp (am_d (d + 3)) T_X9_findRest Q (27, [.ref 4, .int (Int32.ofInt (cnt A : Int)), .int (Int32.ofInt (row : Int)), x3], [], bc, bs) (lo_M n w3 g σ τ r1 r2) := by
  obtain ⟨h77, hr1, hr2, hne, hk1, hk2, hW1, hW2⟩ := id hz
  have hnr := LZ_r1 hz
  obtain ⟨-, e2, e3⟩ := rowsR (cnt A) (by omega)
  intro k
  induction k with
  | zero =>
    intro row σ x3 hrow hx hs hl h3 h5 ho hr h
    have hre : row = 4 ^ cnt A := by omega
    refine am_wp_go (am_d_cm _) (fun pc => Nat.beq pc 69 || Nat.beq pc 27) 60 ?_
    refine And.intro (fun c1 => ?_) (fun c1 => absurd ?_ c1)
    · refine s_settleR d _ (W := Wr A) (sf := rsf A) hnr hk1 (by omega) hW e3 (by omega) (fun p hp => ⟨cnt A - 1 - p, by omega, rfl⟩) (fun row hrow p hp c hc => insR_lt (by omega) hc hrow) hs hl h3 h5 (fun a b ha hb => ⟨by have := HZ_rng (A := A) (B := B) hwf (lw := A 3 1) (mem := fun _ => true) (w := wr A a) hb; unfold Wr zr; omega, hr a (by omega) b hb⟩) (fun σ' k1 k2 k3 k4 => ?_)
      refine And.intro (Or.inr rfl) ?_
      refine h (am_u σ' 4 14 (Int32.ofInt 1)) (fun c e0 e4 e22 e23 e24 e25 e29 e31 => by rw [am_u_ne e4, k1 c e29]) (fun i hi => by rw [am_u_at, if_neg hi, k1 4 (by decide)]) (by rw [am_u_at, if_pos rfl]) (fun i e6 e7 => by rw [am_u_ne (by decide), k2 i e6 e7]) (by rw [am_u_ne (by decide)]; exact k3) (by rw [am_u_ne (by decide)]; exact k4)
    · show σ 29 5 ≤ Int32.ofInt (row : Int)
      rw [h5, zle (by unfold zr; omega) (by unfold zr; omega)]
      omega
  | succ k ih =>
    intro row σ x3 hrow hx hs hl h3 h5 ho hr h
    have hrl : row < 4 ^ cnt A := by omega
    refine am_wp_go (am_d_cm _) (fun pc => Nat.beq pc 69 || Nat.beq pc 27) 60 ?_
    refine And.intro (fun c1 => ?_) (fun c1 => ?_)
    · have c1 : σ 29 5 ≤ Int32.ofInt (row : Int) := c1
      rw [h5, zle (by unfold zr; omega) (by unfold zr; omega)] at c1
      omega
    · refine s_waitByRow (d + 1) _ hwf hc6 (by omega) hx hs hl ho (fun σ1 k1 k2 => ?_)
      have hx1 : IX A B σ1 := IX_fr hx (fun c e1 e2 => k1 c (fun q => e2 (by subst q; unfold scr; omega))) (by rw [k1 4 (by decide)])
      refine s_everybody (d + 2) _ (cnt_le A) hx1.1.2.2.1 ?_
      refine ixi 1 6 (by omega) ?_
      show am_d (d + 3) 1 [.ref 23, .ref 22, .int (Int32.ofInt ((2 ^ cnt A - 1 : Nat) : Int)), .int (σ1 12 1)] 0 0 _ _
      rw [hx1.2.2.1 1 (by omega)]
      have h2 : 2 ^ cnt A ≤ 2 ^ 7 := Nat.pow_le_pow_right (by omega) (cnt_le A)
      refine s_fillA d _ (mem := fun _ => true) (w := wr A row) hwf.2.2.2.1.2.1 (by omega) (fun p hp => bitk_all _ (by omega) p hp) hx1.1 hx1.2.2.1 hwf.2.2.2.1.1 k2 (fun σ2 j1 j2 j3 j4 j5 => ?_)
      have hx2 : IX A B σ2 := IX_fr hx1 (fun c e1 e2 => j1 c (fun q => e2 (by subst q; unfold scr; omega)) (fun q => e2 (by subst q; unfold scr; omega)) (fun q => e2 (by subst q; unfold scr; omega))) (by rw [j1 4 (by decide) (by decide) (by decide)])
      have f2 : ∀ c, c ≠ 22 → c ≠ 23 → c ≠ 24 → c ≠ 25 → σ2 c = σ c := fun c e1 e2 e3 e4 => by rw [j1 c e2 e3 e4, k1 c e1]
      refine s_rest_in d Q hwf hz hrl hW (cnt A) 0 σ2 (by omega) hx2 (by rw [j1 22 (by decide) (by decide) (by decide)]; exact k2) j3 j4 j5 (by rw [f2 29 (by decide) (by decide) (by decide) (by decide)]; exact h3) (fun σ3 m1 m2 => ?_)
      have f3 : ∀ c, c < 77 → c ≠ 22 → c ≠ 23 → c ≠ 24 → c ≠ 25 → c ≠ 31 → σ3 c = σ c := fun c e0 e1 e2 e3 e4 e5 => by rw [m1 c e0 e5, f2 c e1 e2 e3 e4]
      have g29 : σ3 29 = σ 29 := f3 29 (by decide) (by decide) (by decide) (by decide) (by decide) (by decide)
      refine ih (row + 1) σ3 _ (by omega) (IX_fr2 hx2 (fun c e0 e1 e2 => m1 c e0 (fun q => e2 (by subst q; unfold scr; omega))) (by rw [m1 4 (by decide) (by decide)])) (by rw [f3 30 (by decide) (by decide) (by decide) (by decide) (by decide) (by decide)]; exact hs) (by rw [g29]; exact hl) (by rw [g29]; exact h3) (by rw [g29]; exact h5) (Or.inr (fun q hq => ?_)) (fun row' hr' p hp => ?_) (fun σ' q1 q2 q3 q4 q5 q6 => h σ' (fun c e0 e4 e22 e23 e24 e25 e29 e31 => by rw [q1 c e0 e4 e22 e23 e24 e25 e29 e31, f3 c e0 e22 e23 e24 e25 e31]) (fun i hi => by rw [q2 i hi, f3 4 (by decide) (by decide) (by decide) (by decide) (by decide) (by decide)]) q3 (fun i e6 e7 => by rw [q4 i e6 e7, g29]) q5 q6)
      · rw [m1 22 (by decide) (by decide), j1 22 (by decide) (by decide) (by decide), Nat.add_sub_cancel]
        exact k2 q hq
      · rw [m2]
        by_cases e : row' = row
        · subst e
          rw [if_pos (by omega)]
          congr 2
          omega
        · have hl1 : (row' + 1) * cnt A ≤ row * cnt A := Nat.mul_le_mul_right _ (by omega)
          rw [Nat.succ_mul] at hl1
          rw [if_neg (by omega)]
          have er : ∀ c, r1 = c → (c = 22 ∨ c = 23 ∨ c = 24 ∨ c = 25) → False := fun c e1 e2 => by rcases hr1.1 with q | q <;> omega
          rw [f2 r1 (fun e => er 22 e (by omega)) (fun e => er 23 e (by omega)) (fun e => er 24 e (by omega)) (fun e => er 25 e (by omega))]
          exact hr row' (by omega) p hp
set_option maxRecDepth 100000 in
theorem s_findRest (d : Nat) (Q : am_Q) {W1 W2 bc bs : Nat} (hwf : WF A B) (hc6 : cnt A ≤ 6) (hz : LZ n w3 g r1 r2 W1 W2) (hx : IX A B σ) (hb : σ 29 0 = Int32.ofInt 2) (hl : σ 29 1 = Int32.ofInt 3) (hfl : σ 4 14 = Int32.ofInt 0 ∨ σ 4 14 = Int32.ofInt 1 ∧ KR A σ) (hbud : W1 < 4 ^ cnt A * cnt A → 1 ≤ bc ∧ 4 ^ cnt A * cnt A ≤ bs)
    (h : ∀ (n' : Nat) (g' : Nat → Nat × Nat) (r' W' : Nat) (σ' : Nat → Nat → Int32), (W' = W1 ∨ W' = max W1 (4 ^ cnt A * cnt A)) → LZ n' w3 g' r' r2 W' W2 → (∀ c, c < 77 → c ≠ 4 → c ≠ 22 → c ≠ 23 → c ≠ 24 → c ≠ 25 → c ≠ 29 → c ≠ 30 → c ≠ 31 → σ' c = σ c) → (∀ i, i ≠ 14 → σ' 4 i = σ 4 i) → σ' 4 14 = Int32.ofInt 1 → σ' 29 0 = Int32.ofInt 2 → σ' 29 1 = Int32.ofInt 3 → KR A σ' → Q none (lo_M n' w3 g' σ' τ r' r2)) :
    am_d (d + 4) 100 [.ref 4] bc bs (lo_M n w3 g σ τ r1 r2) Q := by
  refine am_goT T_X9_findRest [.ref 4, .null, .null, .null] rfl rfl (fun pc => Nat.beq pc 27) 60 ?_
  rcases hfl with hfl | ⟨hfl, hK⟩
  · refine And.intro (fun c1 => ?_) (fun c1 => absurd (show σ 4 14 = 0 from hfl) c1)
    refine ⟨bc, bs, Nat.le_refl _, Nat.le_refl _, ?_⟩
    show am_d (d + 3) 11 [.ref 29, .int (σ 5 4), .int (Int32.ofInt 1)] bc bs _ _
    rw [hx.1.2.2.1]
    refine s_openR (d + 2) _ (N := cnt A) (by omega) hz hbud hb (fun n' g' r' σ' k1 k2 k3 k4 k5 k6 k7 => ?_)
    have hx' : IX A B σ' := IX_fr2 hx (fun c e0 e1 e2 => k3 c e0 (fun q => e2 (by subst q; unfold scr; omega)) (fun q => e2 (by subst q; unfold scr; omega))) (by rw [k3 4 (by decide) (by decide) (by decide)])
    have key := s_rest_out (n := n') (w3 := w3) (g := g') (τ := τ) (r1 := r') (r2 := r2) d Q (bc := bc - bc) (bs := bs - bs) hwf hc6 k1 k2 (4 ^ cnt A) 0 σ' .null (by omega) hx' k7 (by rw [k4 1 (by decide) (by decide)]; exact hl) k5 k6 (Or.inl rfl) (fun row' hr' => by omega) (fun σ2 m1 m2 m3 m4 m5 m6 => h n' g' r' _ σ2 (Or.inr rfl) k1 (fun c e0 e4 e22 e23 e24 e25 e29 e30 e31 => by rw [m1 c e0 e4 e22 e23 e24 e25 e29 e31, k3 c e0 e29 e30]) (fun i hi => by rw [m2 i hi, k3 4 (by decide) (by decide) (by decide)]) m3 (by rw [m4 0 (by decide) (by decide), k4 0 (by decide) (by decide)]; exact hb) (by rw [m4 1 (by decide) (by decide), k4 1 (by decide) (by decide)]; exact hl) ⟨hc6, m5, m6, by rw [m1 30 (by decide) (by decide) (by decide) (by decide) (by decide) (by decide) (by decide) (by decide)]; exact k7⟩)
    rw [← hx.1.2.2.1] at key
    exact key
  · refine And.intro (fun c1 => absurd (show σ 4 14 = 0 from c1) (by rw [hfl]; decide)) (fun c1 => ?_)
    exact h n g r1 W1 σ (Or.inl rfl) hz (fun _ _ _ _ _ _ _ _ _ _ => rfl) (fun _ _ => rfl) hfl hb hl hK
set_option maxRecDepth 100000 in
theorem c_rest (d : Nat) (Q : am_Q) {W1 W2 bc bs : Nat} {z : Int} (hzr : zr z) (hwf : WF A B) (hz : LZ n w3 g r1 r2 W1 W2) (hx : IX A B σ) (hb : σ 29 0 = Int32.ofInt 2) (hl : σ 29 1 = Int32.ofInt 3) (hfl : σ 4 14 = Int32.ofInt 0 ∨ σ 4 14 = Int32.ofInt 1 ∧ KR A σ) (hbud : cnt A ≤ 6 → W1 < 4 ^ cnt A * cnt A → 1 ≤ bc ∧ 4 ^ cnt A * cnt A ≤ bs)
    (h0 : ¬ (z = -1 ∨ (0 ≤ z ∧ z < cnt A)) ∨ 6 < cnt A → Q (some (.int (Int32.ofInt (f_rest A z)))) (lo_M n w3 g σ τ r1 r2))
    (h : cnt A ≤ 6 → ∀ (n' : Nat) (g' : Nat → Nat × Nat) (r' W' : Nat) (σ' : Nat → Nat → Int32), (W' = W1 ∨ W' = max W1 (4 ^ cnt A * cnt A)) → LZ n' w3 g' r' r2 W' W2 → (∀ c, c < 77 → c ≠ 4 → c ≠ 22 → c ≠ 23 → c ≠ 24 → c ≠ 25 → c ≠ 29 → c ≠ 30 → c ≠ 31 → σ' c = σ c) → (∀ i, i ≠ 14 → σ' 4 i = σ 4 i) → σ' 4 14 = Int32.ofInt 1 → σ' 29 0 = Int32.ofInt 2 → σ' 29 1 = Int32.ofInt 3 → KR A σ' → Q (some (.int (Int32.ofInt (f_rest A z)))) (lo_M n' w3 g' σ' τ r' r2)) :
    am_d (d + 5) 65 [.ref 4, .int (Int32.ofInt z)] bc bs (lo_M n w3 g σ τ r1 r2) Q := by
  have hc := cnt_le A
  have go : (z = -1 ∨ (0 ≤ z ∧ z < cnt A)) → am_run (am_d (d + 4)) T_X9_rest Q (fun _ => false) (am_wp (am_d (d + 4)) T_X9_rest Q) 40 (16, [.ref 4, .int (Int32.ofInt z)], [], bc, bs) (lo_M n w3 g σ τ r1 r2) := by
    intro cz
    refine And.intro (fun c1 => ?_) (fun c1 => ?_)
    · have c1 : σ 5 4 ≤ Int32.ofInt 6 := c1
      rw [hx.1.2.2.1, zle (by unfold zr; omega) (by unfold zr; omega)] at c1
      have hc6 : cnt A ≤ 6 := by omega
      refine ⟨bc, bs, Nat.le_refl _, Nat.le_refl _, ?_⟩
      refine s_findRest d _ hwf hc6 hz hx hb hl hfl (hbud hc6) (fun n' g' r' W' σ' k1 k2 k3 k4 k5 k6 k7 k8 => ?_)
      have h := h hc6 n' g' r' W' σ' k1 k2 k3 k4 k5 k6 k7 k8
      obtain ⟨-, s1, s2, s3⟩ := k8
      have hrs := stl_le (s := fun row => ist (Wr A) 3 (rsf A) row (cnt A) 0) (4 ^ cnt A) 0 (0, -1) (by dsimp only; omega) (Nat.le_refl _)
      obtain ⟨-, -, e3⟩ := rowsR (cnt A) (by omega)
      have hr2 : -1 ≤ (restS A).2 ∧ (restS A).2 ≤ 4096 := by unfold restS; omega
      unfold f_rest at h
      rw [if_neg (fun q => by omega), if_neg (by omega)] at h
      refine And.intro (fun c2 => ?_) (fun c2 => ?_)
      · rw [zeq hzr (by unfold zr; omega)] at c2
        rw [if_pos c2, ← s1] at h
        exact h
      · rw [zeq hzr (by unfold zr; omega)] at c2
        rw [if_neg c2] at h
        refine And.intro (fun c3 => ?_) (fun c3 => ?_)
        · have c3 : σ' 29 7 = Int32.ofInt (-1) := c3
          rw [s2, zeq (by unfold zr; omega) (by unfold zr; omega)] at c3
          rw [if_pos c3] at h
          exact h
        · have c3 : ¬ σ' 29 7 = Int32.ofInt (-1) := c3
          rw [s2, zeq (by unfold zr; omega) (by unfold zr; omega)] at c3
          rw [if_neg c3] at h
          show am_d (d + 4) 12 [.ref 29, .int (σ' 29 7), .int (Int32.ofInt z)] 0 0 _ _
          rw [s2, show Int32.ofInt (restS A).2 = Int32.ofInt ((restS A).2.toNat : Int) by congr 1; omega, show Int32.ofInt z = Int32.ofInt (z.toNat : Int) by congr 1; omega]
          exact s_choiceR (d + 3) _ (sh := rsf A z.toNat) (by omega) (by omega) (by unfold rsf; omega) (s3 _ (by omega)) k7 h
    · have c1 : ¬ σ 5 4 ≤ Int32.ofInt 6 := c1
      rw [hx.1.2.2.1, zle (by unfold zr; omega) (by unfold zr; omega)] at c1
      have h0 := h0 (Or.inr (by omega))
      unfold f_rest at h0
      rw [if_neg (fun q => by omega), if_pos (by omega)] at h0
      exact h0
  refine am_goT T_X9_rest [.ref 4, .int (Int32.ofInt z)] rfl rfl (fun pc => Nat.beq pc 16) 60 ?_
  refine And.intro (fun c1 => ?_) (fun c1 => ?_)
  · rw [zeq hzr (by unfold zr; omega)] at c1
    exact am_wp_run (am_d_cm _) _ 40 (go (Or.inl c1))
  · rw [zeq hzr (by unfold zr; omega)] at c1
    refine s_isThere (d + 2) _ hzr hc hx.1.2.2.1 ?_
    by_cases c : 0 ≤ z ∧ z < cnt A
    · rw [if_pos c]
      refine And.intro (fun q => absurd q (by decide)) (fun _ => ?_)
      exact am_wp_run (am_d_cm _) _ 40 (go (Or.inr c))
    · rw [if_neg c]
      refine And.intro (fun _ => ?_) (fun q => absurd rfl q)
      have h0 := h0 (Or.inl (fun q => by omega))
      unfold f_rest at h0
      rw [if_pos ⟨c1, c⟩] at h0
      exact h0
end RE
end
section
/-! churches: the class -/
/-- what one has who goes by a way of choosing -/
def Wc (A : aN) (way p : Nat) : Int := if chc 1 p way = 0 then HZ A 0 (fun q => !bitk way q) (A 4) p else HZ A 1 (bitk way) (A 4) p
def chS2 (A : aN) : Nat × Int := stl (fun row => ist (Wc A) 1 (fun p => p) row (cnt A) 0) (2 ^ cnt A) 0 (0, -1)
/-- the kept answer of CHURCHES -/
def KC (A : aN) (σ : Nat → Nat → Int32) : Prop := σ 32 6 = Int32.ofInt ((chS2 A).1 : Int) ∧ σ 32 7 = Int32.ofInt (chS2 A).2
def f_churches (A : aN) (z : Int) : Int := if 0 ≤ z ∧ z ≤ 1 then (if z = 0 then ((chS2 A).1 : Int) else (chS2 A).2) else -2
theorem mskC : ∀ n : Nat, n < 8 → ∀ way : Nat, way < 128 → way < 2 ^ n → (Int32.ofInt ((2 ^ n - 1 : Nat) : Int) &&& (Int32.ofInt (way : Int) ^^^ Int32.ofInt (-1))) = Int32.ofInt ((2 ^ n - 1 - way : Nat) : Int) := by decide +kernel
theorem memC : ∀ n : Nat, n < 8 → ∀ way : Nat, way < 128 → ∀ p : Nat, p < n → way < 2 ^ n → bitk (2 ^ n - 1 - way) p = !bitk way p := by decide +kernel
section CH
variable {n w3 : Nat} {g : Nat → Nat × Nat} {σ : Nat → Nat → Int32} {τ : Nat → Nat → Int64} {r1 r2 : Nat} {A : aN} {B : aZ}
theorem s_fillA26 (d : Nat) (Q : am_Q) {mask lw : Nat} {mem : Nat → Bool} {w : Nat → Nat} (hlw : lw ≤ 1) (hmk : mask < 128) (hmem : ∀ p, p < cnt A → bitk mask p = mem p) (hP : ixP A σ) (hS : ixS A σ) (hb60 : A 3 0 ≤ 60) (hg : ∀ q, q < cnt A → σ 22 q = Int32.ofInt (gin A q (w q) : Int))
    (h : ∀ σ' : Nat → Nat → Int32, (∀ c, c ≠ 26 → c ≠ 27 → c ≠ 28 → σ' c = σ c) → (∀ i, i ≠ 5 → σ' 26 i = σ 26 i) → σ' 26 5 = Int32.ofInt ((SL A lw mem w).length : Int) → hol σ' 28 0 (SL A lw mem w) → (∀ q, q < cnt A → σ' 27 q = Int32.ofInt (seatZ (SL A lw mem w) q)) → Q none (lo_M n w3 g σ' τ r1 r2)) :
    am_d (d + 3) 1 [.ref 26, .ref 22, .int (Int32.ofInt (mask : Int)), .int (Int32.ofInt (lw : Int))] 0 0 (lo_M n w3 g σ τ r1 r2) Q := by
  have hN := cnt_le A
  have hc : fL (lw : Int) (A 3 0 : Int) (fun q => if q < cnt A then (gin A q (w q) : Int) else (σ 22 q).toInt) mem (cnt A) = SL A lw mem w := fL_congr (cnt A) (fun q hq => ⟨if_pos hq, rfl⟩)
  have := s_fill26 d Q (N := cnt A) (mk := Int32.ofInt (mask : Int)) (lw := (lw : Int)) (bell := (A 3 0 : Int)) (gs := fun q => if q < cnt A then (gin A q (w q) : Int) else (σ 22 q).toInt) (mem := mem) (σ := σ) (n := n) (w3 := w3) (g := g) (τ := τ) (r1 := r1) (r2 := r2) hN (by unfold zr; omega) (by unfold zr; omega) (fun q _ => by
      show zr (if q < cnt A then (gin A q (w q) : Int) else (σ 22 q).toInt)
      split
      · unfold zr gin; omega
      · exact zrof _) (fun p hp => by rw [bitk_eq mask hmk p (by omega), hmem p hp]) hP.2.2.1 (hS 0 (by omega)) (fun q _ => by
      show σ 22 q = Int32.ofInt (if q < cnt A then (gin A q (w q) : Int) else (σ 22 q).toInt)
      split
      · next hq => exact hg q hq
      · exact zof _)
  rw [hc] at this
  exact this h
theorem s_worthA26 (d : Nat) (Q : am_Q) {L : List Nat} {st : Int} {p gg : Nat} (hwf : WF A B) (hp : p < cnt A) (hgg : gg ≤ 60) (hP : ixP A σ) (hR : ixR A σ) (hS : ixS A σ) (hL : ixL A σ) (hL7 : ∀ q ∈ L, q < 7) (hlen : L.length ≤ 7) (ht : σ 26 5 = Int32.ofInt (L.length : Int)) (h1 : hol σ 28 0 L) (hs : σ 27 p = Int32.ofInt st) (hst1 : -1 ≤ st) (hst2 : st < 7) (h : Q (some (.int (Int32.ofInt (WZ A L st p gg)))) (lo_M n w3 g σ τ r1 r2)) : am_d (d + 3) 4 [.ref 26, .int (Int32.ofInt (p : Int)), .int (Int32.ofInt (gg : Int))] 0 0 (lo_M n w3 g σ τ r1 r2) Q := by
  have hc := cnt_le A
  have hm := mn_lt hp
  have hws := wsh_lt hp
  obtain ⟨-, -, hr, ⟨-, -, ⟨w1, w4⟩, c9, s9, -⟩, -, hl, -⟩ := hwf
  exact s_worth26 d Q (wd := A 3 2) (mp := mn A p) (wp := wsh A p) (care := (A 3 3 : Int)) (soak := (A 3 4 : Int)) (lv := fun a b => (A (20 + a) b : Int)) (pr := fun m => (prz (A 2) m : Int)) (by omega) w1 w4 (by omega) (by omega) (by omega) hst1 hst2 (hP.2.2.2.2 p hp).1 (hP.2.2.2.2 p hp).2 hR (hS 4 (by omega)) (hS 3 (by omega)) (hS 2 (by omega)) hs hL7 hlen ht h1 hL h
/-- both churches are filled by a way -/
def tw (A : aN) (way : Nat) (σ : Nat → Nat → Int32) : Prop := σ 23 5 = Int32.ofInt ((SL A 0 (fun q => !bitk way q) (A 4)).length : Int) ∧ hol σ 25 0 (SL A 0 (fun q => !bitk way q) (A 4)) ∧ (∀ q, q < cnt A → σ 24 q = Int32.ofInt (seatZ (SL A 0 (fun q => !bitk way q) (A 4)) q)) ∧ σ 26 5 = Int32.ofInt ((SL A 1 (bitk way) (A 4)).length : Int) ∧ hol σ 28 0 (SL A 1 (bitk way) (A 4)) ∧ (∀ q, q < cnt A → σ 27 q = Int32.ofInt (seatZ (SL A 1 (bitk way) (A 4)) q))
set_option maxHeartbeats 1000000 in
set_option maxRecDepth 100000 in
theorem s_ch_in (d : Nat) (Q : am_Q) {row W1 W2 bc bs : Nat} (hwf : WF A B) (hz : LZ n w3 g r1 r2 W1 W2) (hrow : row < 2 ^ cnt A) (hW : 2 ^ cnt A * cnt A ≤ W2) : ∀ (k p : Nat) (σ : Nat → Nat → Int32) (x4 : Value), p + k = cnt A → IX A B σ → (∀ q, q < cnt A → σ 22 q = Int32.ofInt (gin A q (A 4 q) : Int)) → tw A row σ → σ 32 3 = Int32.ofInt (cnt A : Int) → σ 32 1 = Int32.ofInt 1 → (∀ q, q < cnt A → σ 33 q = Int32.ofInt (q : Int)) →
    (∀ (σ' : Nat → Nat → Int32) (x4 : Value), (∀ c, c < 77 → c ≠ 34 → σ' c = σ c) → (∀ i, σ' r2 i = if row * cnt A + p ≤ i ∧ i < row * cnt A + cnt A then Int32.ofInt (Wc A row (i - row * cnt A)) else σ r2 i) → am_wp (am_d (d + 3)) T_X9_findChoosing Q (31, [.ref 4, .int (Int32.ofInt (cnt A : Int)), .int (Int32.ofInt ((row + 1 : Nat) : Int)), .int (Int32.ofInt (cnt A : Int)), x4], [], bc, bs) (lo_M n w3 g σ' τ r1 r2)) →
    am_wp (am_d (d + 3)) T_X9_findChoosing Q (77, [.ref 4, .int (Int32.ofInt (cnt A : Int)), .int (Int32.ofInt (row : Int)), .int (Int32.ofInt (p : Int)), x4], [], bc, bs) (lo_M n w3 g σ τ r1 r2) := by
  have hc := cnt_le A
  have h27 : 2 ^ cnt A ≤ 2 ^ 7 := Nat.pow_le_pow_right (by omega) hc
  obtain ⟨h77, hr1, hr2, hne, hk1, hk2, hW1, hW2⟩ := id hz
  have hnr := LZ_r2 hz
  intro k
  induction k with
  | zero =>
    intro p σ x4 hp hx hg ht h3 h1 h33 h
    have hpe : p = cnt A := by omega
    subst hpe
    have h := h σ x4 (fun _ _ _ => rfl) (fun i => by rw [if_neg (by omega)])
    rw [show ((row + 1 : Nat) : Int) = (row : Int) + 1 by omega, ← zadd] at h
    refine am_wp_go (am_d_cm _) (fun pc => Nat.beq pc 77 || Nat.beq pc 31) 60 ?_
    refine And.intro (fun c1 => ?_) (fun c1 => absurd ?_ c1)
    · exact h
    · rw [zle (by unfold zr; omega) (by unfold zr; omega)]
      omega
  | succ k ih =>
    intro p σ x4 hp hx hg ht h3 h1 h33 h
    have hpc : p < cnt A := by omega
    have ch2 : chc 1 p row < 2 := Nat.mod_lt _ (by omega)
    refine am_wp_go (am_d_cm _) (fun pc => Nat.beq pc 77 || Nat.beq pc 31) 60 ?_
    refine And.intro (fun c1 => ?_) (fun c1 => ?_)
    · rw [zle (by unfold zr; omega) (by unfold zr; omega)] at c1
      omega
    · have nx : ∀ x4, am_wp (am_d (d + 3)) T_X9_findChoosing Q (77, [.ref 4, .int (Int32.ofInt (cnt A : Int)), .int (Int32.ofInt (row : Int)), .int (Int32.ofInt (p : Int) + Int32.ofInt 1), x4], [], bc, bs) (lo_M n w3 g (am_u σ r2 (row * cnt A + p) (Int32.ofInt (Wc A row p))) τ r1 r2) := by
        intro x4
        rw [zadd, show ((p : Int) + 1) = ((p + 1 : Nat) : Int) by omega]
        have fr : ∀ c, c < 77 → c ≠ 34 → am_u σ r2 (row * cnt A + p) (Int32.ofInt (Wc A row p)) c = σ c := fun c e1 e2 => am_u_ne (hnr c e1 e2)
        refine ih (p + 1) _ x4 (by omega) (IX_fr hx (fun c e1 e2 => am_u_ne (fun q => e2 (by subst q; unfold scr; rcases hr2.1 with q | q <;> omega))) (by rw [fr 4 (by omega) (by omega)])) (by rw [fr 22 (by omega) (by omega)]; exact hg) (by unfold tw hol; rw [fr 23 (by omega) (by omega), fr 24 (by omega) (by omega), fr 25 (by omega) (by omega), fr 26 (by omega) (by omega), fr 27 (by omega) (by omega), fr 28 (by omega) (by omega)]; exact ht) (by rw [fr 32 (by omega) (by omega)]; exact h3) (by rw [fr 32 (by omega) (by omega)]; exact h1) (by rw [fr 33 (by omega) (by omega)]; exact h33) (fun σ' x4 k1 k2 => h σ' x4 (fun c e1 e2 => by rw [k1 c e1 e2, fr c e1 e2]) (fun i => ?_))
        rw [k2 i, am_u_at]
        by_cases e : i = row * cnt A + p
        · subst e
          rw [if_neg (by omega), if_pos rfl, if_pos (by omega)]
          congr 2
          omega
        · by_cases e2 : row * cnt A + (p + 1) ≤ i ∧ i < row * cnt A + cnt A
          · rw [if_pos e2, if_pos (by omega)]
          · rw [if_neg e2, if_neg e, if_neg (by omega)]
      obtain ⟨t1, t2, t3, t4, t5, t6⟩ := ht
      refine s_choiceC (d + 2) _ (sh := p) (by omega) (by omega) (by omega) (h33 p hpc) h1 ?_
      obtain ⟨hP', hR', hS', hL', hW', hF', hU', hH', hl'⟩ := id hx
      refine And.intro (fun c2 => ?_) (fun c2 => ?_)
      · have c2 : Int32.ofInt (chc 1 p row : Int) = 0 := c2
        rw [zeq0 (by unfold zr; omega)] at c2
        have eW : Wc A row p = HZ A 0 (fun q => !bitk row q) (A 4) p := by
          unfold Wc
          rw [if_pos (by omega)]
        rw [eW] at nx
        refine ixi p 7 (by omega) ?_
        show am_d (d + 3) 4 [.ref 23, .int (Int32.ofInt (p : Int)), .int (σ 22 p)] 0 0 _ _
        rw [hg p hpc]
        have s7 := seat7 A 0 (fun q => !bitk row q) (A 4) p
        refine s_worthA d (L := SL A 0 (fun q => !bitk row q) (A 4)) (st := seatZ (SL A 0 (fun q => !bitk row q) (A 4)) p) _ hwf hpc (by unfold gin; omega) hP' hR' hS' hL' (fun q hq => by have := SL_lt q hq; omega) (SL_len _ _ _ _) t1 t2 (t3 p hpc) s7.1 s7.2 ?_
        refine s_noteC (d + 2) _ (row := row) (p := p) (N := cnt A) hk2 (by omega) (ixlt hrow hpc hW) h3 ?_
        exact nx _
      · have c2 : ¬ Int32.ofInt (chc 1 p row : Int) = 0 := c2
        rw [zeq0 (by unfold zr; omega)] at c2
        have eW : Wc A row p = HZ A 1 (bitk row) (A 4) p := by
          unfold Wc
          rw [if_neg (by omega)]
        rw [eW] at nx
        refine ixi p 7 (by omega) ?_
        show am_d (d + 3) 4 [.ref 26, .int (Int32.ofInt (p : Int)), .int (σ 22 p)] 0 0 _ _
        rw [hg p hpc]
        have s7 := seat7 A 1 (bitk row) (A 4) p
        refine s_worthA26 d (L := SL A 1 (bitk row) (A 4)) (st := seatZ (SL A 1 (bitk row) (A 4)) p) _ hwf hpc (by unfold gin; omega) hP' hR' hS' hL' (fun q hq => by have := SL_lt q hq; omega) (SL_len _ _ _ _) t4 t5 (t6 p hpc) s7.1 s7.2 ?_
        refine s_noteC (d + 2) _ (row := row) (p := p) (N := cnt A) hk2 (by omega) (ixlt hrow hpc hW) h3 ?_
        exact nx _
set_option maxHeartbeats 1000000 in
set_option maxRecDepth 100000 in
theorem s_ch_out (d : Nat) (Q : am_Q) {W1 W2 bc bs : Nat} (hwf : WF A B) (hz : LZ n w3 g r1 r2 W1 W2) (hW : 2 ^ cnt A * cnt A ≤ W2) : ∀ (k row : Nat) (σ : Nat → Nat → Int32) (x3 x4 : Value), row + k = 2 ^ cnt A → IX A B σ → (∀ p, p < cnt A → σ 33 p = Int32.ofInt (p : Int)) → σ 32 1 = Int32.ofInt 1 → σ 32 3 = Int32.ofInt (cnt A : Int) → σ 32 5 = Int32.ofInt ((2 ^ cnt A : Nat) : Int) → (∀ q, q < cnt A → σ 22 q = Int32.ofInt (gin A q (A 4 q) : Int)) → (∀ row', row' < row → ∀ p, p < cnt A → σ r2 (row' * cnt A + p) = Int32.ofInt (Wc A row' p)) →
    (∀ σ' : Nat → Nat → Int32, (∀ c, c < 77 → c ≠ 4 → c ≠ 23 → c ≠ 24 → c ≠ 25 → c ≠ 26 → c ≠ 27 → c ≠ 28 → c ≠ 32 → c ≠ 34 → σ' c = σ c) → (∀ i, i ≠ 15 → σ' 4 i = σ 4 i) → σ' 4 15 = Int32.ofInt 1 → (∀ i, i ≠ 6 → i ≠ 7 → σ' 32 i = σ 32 i) → KC A σ' → Q none (lo_M n w3 g σ' τ r1 r2)) →
    am_wp (am_d (d + 3)) T_X9_findChoosing Q (31, [.ref 4, .int (Int32.ofInt (cnt A : Int)), .int (Int32.ofInt (row : Int)), x3, x4], [], bc, bs) (lo_M n w3 g σ τ r1 r2) := by
  have hc := cnt_le A
  obtain ⟨h77, hr1, hr2, hne, hk1, hk2, hW1, hW2⟩ := id hz
  have hnr := LZ_r2 hz
  obtain ⟨-, e2, e3⟩ := rowsC (cnt A) (by omega)
  intro k
  induction k with
  | zero =>
    intro row σ x3 x4 hrow hx hs hl h3 h5 ho hr h
    have hre : row = 2 ^ cnt A := by omega
    refine am_wp_go (am_d_cm _) (fun pc => Nat.beq pc 77 || Nat.beq pc 31) 60 ?_
    refine And.intro (fun c1 => ?_) (fun c1 => absurd ?_ c1)
    · refine s_settleC d _ (W := Wc A) (sf := fun p => p) hnr hk2 (by omega) hW e3 (by omega) (fun p hp => by omega) (fun row hrow p hp c hc => insC_lt hp hc hrow) hs hl h3 h5 (fun a b ha hb => ⟨by
          have q1 := HZ_rng (A := A) (B := B) hwf (lw := 0) (mem := fun q => !bitk a q) (w := A 4) hb
          have q2 := HZ_rng (A := A) (B := B) hwf (lw := 1) (mem := bitk a) (w := A 4) hb
          unfold Wc zr
          split <;> omega, hr a (by omega) b hb⟩) (fun σ' k1 k2 k3 k4 => ?_)
      refine And.intro (Or.inr rfl) ?_
      refine h (am_u σ' 4 15 (Int32.ofInt 1)) (fun c e0 e4 _ _ _ _ _ _ e32 _ => by rw [am_u_ne e4, k1 c e32]) (fun i hi => by rw [am_u_at, if_neg hi, k1 4 (by decide)]) (by rw [am_u_at, if_pos rfl]) (fun i e6 e7 => by rw [am_u_ne (by decide), k2 i e6 e7]) ⟨by rw [am_u_ne (by decide)]; exact k3, by rw [am_u_ne (by decide)]; exact k4⟩
    · show σ 32 5 ≤ Int32.ofInt (row : Int)
      rw [h5, zle (by unfold zr; omega) (by unfold zr; omega)]
      omega
  | succ k ih =>
    intro row σ x3 x4 hrow hx hs hl h3 h5 ho hr h
    have hrl : row < 2 ^ cnt A := by omega
    refine am_wp_go (am_d_cm _) (fun pc => Nat.beq pc 77 || Nat.beq pc 31) 60 ?_
    refine And.intro (fun c1 => ?_) (fun c1 => ?_)
    · have c1 : σ 32 5 ≤ Int32.ofInt (row : Int) := c1
      rw [h5, zle (by unfold zr; omega) (by unfold zr; omega)] at c1
      omega
    · refine s_everybody (d + 2) _ (cnt_le A) hx.1.2.2.1 ?_
      show am_d (d + 3) 1 [.ref 23, .ref 22, .int (Int32.ofInt ((2 ^ cnt A - 1 : Nat) : Int) &&& (Int32.ofInt (row : Int) ^^^ Int32.ofInt (-1))), .int (Int32.ofInt 0)] 0 0 _ _
      rw [mskC (cnt A) (by omega) row (by omega) hrl]
      refine s_fillA d _ (lw := 0) (mem := fun q => !bitk row q) (w := A 4) (by omega) (by omega) (fun p hp => memC (cnt A) (by omega) row (by omega) p hp hrl) hx.1 hx.2.2.1 hwf.2.2.2.1.1 ho (fun σ1 k1 k2 k3 k4 k5 => ?_)
      have hx1 : IX A B σ1 := IX_fr hx (fun c e1 e2 => k1 c (fun q => e2 (by subst q; unfold scr; omega)) (fun q => e2 (by subst q; unfold scr; omega)) (fun q => e2 (by subst q; unfold scr; omega))) (by rw [k1 4 (by decide) (by decide) (by decide)])
      refine s_fillA26 d _ (mask := row) (lw := 1) (mem := bitk row) (w := A 4) (by omega) (by omega) (fun p hp => rfl) hx1.1 hx1.2.2.1 hwf.2.2.2.1.1 (by rw [k1 22 (by decide) (by decide) (by decide)]; exact ho) (fun σ2 j1 j2 j3 j4 j5 => ?_)
      have hx2 : IX A B σ2 := IX_fr hx1 (fun c e1 e2 => j1 c (fun q => e2 (by subst q; unfold scr; omega)) (fun q => e2 (by subst q; unfold scr; omega)) (fun q => e2 (by subst q; unfold scr; omega))) (by rw [j1 4 (by decide) (by decide) (by decide)])
      have f2 : ∀ c, c ≠ 23 → c ≠ 24 → c ≠ 25 → c ≠ 26 → c ≠ 27 → c ≠ 28 → σ2 c = σ c := fun c e1 e2 e3 e4 e5 e6 => by rw [j1 c e4 e5 e6, k1 c e1 e2 e3]
      have g2 : σ2 32 = σ 32 := f2 32 (by decide) (by decide) (by decide) (by decide) (by decide) (by decide)
      refine s_ch_in d Q hwf hz hrl hW (cnt A) 0 σ2 x4 (by omega) hx2 (by rw [f2 22 (by decide) (by decide) (by decide) (by decide) (by decide) (by decide)]; exact ho) ⟨by rw [j1 23 (by decide) (by decide) (by decide)]; exact k3, by unfold hol; rw [j1 25 (by decide) (by decide) (by decide)]; exact k4, by rw [j1 24 (by decide) (by decide) (by decide)]; exact k5, j3, j4, j5⟩ (by rw [g2]; exact h3) (by rw [g2]; exact hl) (by rw [f2 33 (by decide) (by decide) (by decide) (by decide) (by decide) (by decide)]; exact hs) (fun σ3 x4 m1 m2 => ?_)
      have f3 : ∀ c, c < 77 → c ≠ 23 → c ≠ 24 → c ≠ 25 → c ≠ 26 → c ≠ 27 → c ≠ 28 → c ≠ 34 → σ3 c = σ c := fun c e0 e1 e2 e3 e4 e5 e6 e7 => by rw [m1 c e0 e7, f2 c e1 e2 e3 e4 e5 e6]
      have g3 : σ3 32 = σ 32 := f3 32 (by decide) (by decide) (by decide) (by decide) (by decide) (by decide) (by decide) (by decide)
      refine ih (row + 1) σ3 _ x4 (by omega) (IX_fr2 hx2 (fun c e0 e1 e2 => m1 c e0 (fun q => e2 (by subst q; unfold scr; omega))) (by rw [m1 4 (by decide) (by decide)])) (by rw [f3 33 (by decide) (by decide) (by decide) (by decide) (by decide) (by decide) (by decide) (by decide)]; exact hs) (by rw [g3]; exact hl) (by rw [g3]; exact h3) (by rw [g3]; exact h5) (by rw [f3 22 (by decide) (by decide) (by decide) (by decide) (by decide) (by decide) (by decide) (by decide)]; exact ho) (fun row' hr' p hp => ?_) (fun σ' q1 q2 q3 q4 q5 => h σ' (fun c e0 e4 a1 a2 a3 a4 a5 a6 e32 e34 => by rw [q1 c e0 e4 a1 a2 a3 a4 a5 a6 e32 e34, f3 c e0 a1 a2 a3 a4 a5 a6 e34]) (fun i hi => by rw [q2 i hi, f3 4 (by decide) (by decide) (by decide) (by decide) (by decide) (by decide) (by decide) (by decide)]) q3 (fun i e6 e7 => by rw [q4 i e6 e7, g3]) q5)
      rw [m2]
      by_cases e : row' = row
      · subst e
        rw [if_pos (by omega)]
        congr 2
        omega
      · have hl1 : (row' + 1) * cnt A ≤ row * cnt A := Nat.mul_le_mul_right _ (by omega)
        rw [Nat.succ_mul] at hl1
        rw [if_neg (by omega)]
        have er : ∀ c, r2 = c → (c = 23 ∨ c = 24 ∨ c = 25 ∨ c = 26 ∨ c = 27 ∨ c = 28) → False := fun c e1 e2 => by rcases hr2.1 with q | q <;> omega
        rw [f2 r2 (fun e => er 23 e (by omega)) (fun e => er 24 e (by omega)) (fun e => er 25 e (by omega)) (fun e => er 26 e (by omega)) (fun e => er 27 e (by omega)) (fun e => er 28 e (by omega))]
        exact hr row' (by omega) p hp
set_option maxRecDepth 100000 in
theorem s_findChoosing (d : Nat) (Q : am_Q) {W1 W2 bc bs : Nat} (hwf : WF A B) (hz : LZ n w3 g r1 r2 W1 W2) (hx : IX A B σ) (hb : σ 32 0 = Int32.ofInt 1) (hl : σ 32 1 = Int32.ofInt 1) (hfl : σ 4 15 = Int32.ofInt 0 ∨ σ 4 15 = Int32.ofInt 1 ∧ KC A σ) (hbud : W2 < 2 ^ cnt A * cnt A → 1 ≤ bc ∧ 2 ^ cnt A * cnt A ≤ bs)
    (h : ∀ (n' : Nat) (g' : Nat → Nat × Nat) (r' W' : Nat) (σ' : Nat → Nat → Int32), (W' = W2 ∨ W' = max W2 (2 ^ cnt A * cnt A)) → LZ n' w3 g' r1 r' W1 W' → (∀ c, c < 77 → c ≠ 4 → ¬ (22 ≤ c ∧ c ≤ 28) → c ≠ 32 → c ≠ 33 → c ≠ 34 → σ' c = σ c) → (∀ i, i ≠ 15 → σ' 4 i = σ 4 i) → σ' 4 15 = Int32.ofInt 1 → σ' 32 0 = Int32.ofInt 1 → σ' 32 1 = Int32.ofInt 1 → KC A σ' → Q none (lo_M n' w3 g' σ' τ r1 r')) :
    am_d (d + 4) 102 [.ref 4] bc bs (lo_M n w3 g σ τ r1 r2) Q := by
  have hc := cnt_le A
  refine am_goT T_X9_findChoosing [.ref 4, .null, .null, .null, .null] rfl rfl (fun pc => Nat.beq pc 31) 60 ?_
  rcases hfl with hfl | ⟨hfl, hK⟩
  · refine And.intro (fun c1 => ?_) (fun c1 => absurd (show σ 4 15 = 0 from hfl) c1)
    refine s_gather (d + 1) _ hx.1 hx.2.2.2.2.1 hwf.2.2.2.2.1 (fun σ1 k1 k2 => ?_)
    have hx1 : IX A B σ1 := IX_fr hx (fun c e1 e2 => k1 c (fun q => e2 (by subst q; unfold scr; omega))) (by rw [k1 4 (by decide)])
    refine ⟨bc, bs, Nat.le_refl _, Nat.le_refl _, ?_⟩
    show am_d (d + 3) 11 [.ref 32, .int (σ1 5 4), .int (Int32.ofInt 0)] bc bs _ _
    rw [hx1.1.2.2.1]
    refine s_openC (d + 2) _ (N := cnt A) (by omega) hz hbud (by rw [k1 32 (by decide)]; exact hb) (fun n' g' r' σ' j1 j2 j3 j4 j5 j6 j7 => ?_)
    have hx' : IX A B σ' := IX_fr2 hx1 (fun c e0 e1 e2 => j3 c e0 (fun q => e2 (by subst q; unfold scr; omega)) (fun q => e2 (by subst q; unfold scr; omega))) (by rw [j3 4 (by decide) (by decide) (by decide)])
    have key := s_ch_out (n := n') (w3 := w3) (g := g') (τ := τ) (r1 := r1) (r2 := r') d Q (bc := bc - bc) (bs := bs - bs) hwf j1 j2 (2 ^ cnt A) 0 σ' .null .null (by omega) hx' j7 (by rw [j4 1 (by decide) (by decide), k1 32 (by decide)]; exact hl) j5 j6 (fun q hq => by rw [j3 22 (by decide) (by decide) (by decide), k2 q, if_pos hq]) (fun row' hr' => by omega) (fun σ2 m1 m2 m3 m4 m5 => h n' g' r' _ σ2 (Or.inr rfl) j1 (fun c e0 e4 e22 e32 e33 e34 => by rw [m1 c e0 e4 (by omega) (by omega) (by omega) (by omega) (by omega) (by omega) e32 e34, j3 c e0 e32 e33, k1 c (by omega)]) (fun i hi => by rw [m2 i hi, j3 4 (by decide) (by decide) (by decide), k1 4 (by decide)]) m3 (by rw [m4 0 (by decide) (by decide), j4 0 (by decide) (by decide), k1 32 (by decide)]; exact hb) (by rw [m4 1 (by decide) (by decide), j4 1 (by decide) (by decide), k1 32 (by decide)]; exact hl) m5)
    rw [← hx1.1.2.2.1] at key
    exact key
  · refine And.intro (fun c1 => absurd (show σ 4 15 = 0 from c1) (by rw [hfl]; decide)) (fun c1 => ?_)
    exact h n g r2 W2 σ (Or.inl rfl) hz (fun _ _ _ _ _ _ _ => rfl) (fun _ _ => rfl) hfl hb hl hK
set_option maxRecDepth 100000 in
theorem c_churches (d : Nat) (Q : am_Q) {W1 W2 bc bs : Nat} {z : Int} (hzr : zr z) (hwf : WF A B) (hz : LZ n w3 g r1 r2 W1 W2) (hx : IX A B σ) (hb : σ 32 0 = Int32.ofInt 1) (hl : σ 32 1 = Int32.ofInt 1) (hfl : σ 4 15 = Int32.ofInt 0 ∨ σ 4 15 = Int32.ofInt 1 ∧ KC A σ) (hbud : W2 < 2 ^ cnt A * cnt A → 1 ≤ bc ∧ 2 ^ cnt A * cnt A ≤ bs)
    (h0 : ¬ (0 ≤ z ∧ z ≤ 1) → Q (some (.int (Int32.ofInt (f_churches A z)))) (lo_M n w3 g σ τ r1 r2))
    (h : ∀ (n' : Nat) (g' : Nat → Nat × Nat) (r' W' : Nat) (σ' : Nat → Nat → Int32), (W' = W2 ∨ W' = max W2 (2 ^ cnt A * cnt A)) → LZ n' w3 g' r1 r' W1 W' → (∀ c, c < 77 → c ≠ 4 → ¬ (22 ≤ c ∧ c ≤ 28) → c ≠ 32 → c ≠ 33 → c ≠ 34 → σ' c = σ c) → (∀ i, i ≠ 15 → σ' 4 i = σ 4 i) → σ' 4 15 = Int32.ofInt 1 → σ' 32 0 = Int32.ofInt 1 → σ' 32 1 = Int32.ofInt 1 → KC A σ' → Q (some (.int (Int32.ofInt (f_churches A z)))) (lo_M n' w3 g' σ' τ r1 r')) :
    am_d (d + 5) 68 [.ref 4, .int (Int32.ofInt z)] bc bs (lo_M n w3 g σ τ r1 r2) Q := by
  refine am_goT T_X9_churches [.ref 4, .int (Int32.ofInt z)] rfl rfl (fun _ => false) 60 ?_
  refine s_withinZ (d + 3) hzr (by unfold zr; omega) (by unfold zr; omega) _ _ ?_
  by_cases c : 0 ≤ z ∧ z ≤ 1
  · rw [if_pos c]
    refine And.intro (fun q => absurd q (by decide)) (fun _ => ?_)
    refine ⟨bc, bs, Nat.le_refl _, Nat.le_refl _, ?_⟩
    refine s_findChoosing d _ hwf hz hx hb hl hfl hbud (fun n' g' r' W' σ' k1 k2 k3 k4 k5 k6 k7 k8 => ?_)
    have h := h n' g' r' W' σ' k1 k2 k3 k4 k5 k6 k7 k8
    obtain ⟨s1, s2⟩ := k8
    unfold f_churches at h
    rw [if_pos c] at h
    refine And.intro (fun c2 => ?_) (fun c2 => ?_)
    · rw [zeq0 hzr] at c2
      rw [if_pos c2, ← s1] at h
      exact h
    · rw [zeq0 hzr] at c2
      rw [if_neg c2, ← s2] at h
      exact h
  · rw [if_neg c]
    refine And.intro (fun _ => ?_) (fun q => absurd rfl q)
    have h0 := h0 c
    unfold f_churches at h0
    rw [if_neg c] at h0
    exact h0
end CH
end
section
/-! Orders: the class -/
theorem andz (a b : Nat) : Int32.ofInt (a : Int) &&& Int32.ofInt (b : Int) = Int32.ofInt ((a &&& b : Nat) : Int) := by
  rw [zN, zN, zN]
  apply Int32.toBitVec_inj.1
  show BitVec.ofNat 32 a &&& BitVec.ofNat 32 b = BitVec.ofNat 32 (a &&& b)
  apply BitVec.eq_of_getLsbD_eq
  intro i hi
  simp [hi]
theorem sh1 : ∀ p : Nat, p < 7 → Int32.ofInt 1 <<< (Int32.ofInt (p : Int) &&& 31) = Int32.ofInt ((2 ^ p : Nat) : Int) := by decide +kernel
theorem andn : ∀ a : Nat, a < 128 → ∀ c : Nat, c < 128 → (Int32.ofInt (a : Int) &&& (Int32.ofInt (c : Int) ^^^ Int32.ofInt (-1))) = Int32.ofInt ((a &&& (127 - c) : Nat) : Int) := by decide +kernel
theorem and_le (a b : Nat) : a &&& b ≤ a := Nat.and_le_left
theorem pcn_le (c : Nat) : pcn c ≤ 7 := by
  unfold pcn
  omega
theorem or2 : ∀ c : Nat, c < 128 → ∀ p : Nat, p < 7 → c ||| 2 ^ p < 128 ∧ (bitk c p = false → c ||| 2 ^ p = c + 2 ^ p ∧ pcn (c ||| 2 ^ p) = pcn c + 1) := by decide +kernel
theorem or3 : ∀ n : Nat, n < 8 → ∀ c : Nat, c < 128 → ∀ p : Nat, p < n → c < 2 ^ n → c ||| 2 ^ p < 2 ^ n := by decide +kernel
theorem bitv7 : ∀ k : Nat, k < 128 → ∀ p : Nat, p < 8 → (Int32.ofInt (k : Int) >>> (Int32.ofInt (p : Int) &&& 31)) &&& Int32.ofInt 1 = Int32.ofInt (if bitk k p = true then 1 else 0) := by decide +kernel
end
section
/-! Orders: the class, who may come -/
/-- what one fact does to who comes ahead of whom, and to the places -/
def hd1 (n lw kd pe ot : Nat) (x : (Nat → Nat) × (Nat → Nat)) : (Nat → Nat) × (Nat → Nat) :=
  if n ≤ pe then x else if kd = 0 then (x.1, fun q => if q = pe then x.2 pe &&& (if ot < n then 2 ^ (if lw = 0 then ot else n - 1 - ot) else 0) else x.2 q) else if n ≤ ot then x else if lw = 0 then ((fun q => if q = pe then x.1 pe ||| 2 ^ ot else x.1 q), x.2) else ((fun q => if q = ot then x.1 ot ||| 2 ^ pe else x.1 q), x.2)
def hd2 (n kd pe ot : Nat) : Bool := if n ≤ pe then false else if kd = 0 then true else if n ≤ ot then false else true
def m7 (n : Nat) (x : (Nat → Nat) × (Nat → Nat)) : Prop := ∀ q, q < n → x.1 q < 128 ∧ x.2 q < 128
theorem hd1_7 {n lw kd pe ot : Nat} {x : (Nat → Nat) × (Nat → Nat)} (hn : n ≤ 7) (h : m7 n x) : m7 n (hd1 n lw kd pe ot x) := by
  unfold hd1
  split
  · exact h
  · split
    · intro q hq
      refine ⟨(h q hq).1, ?_⟩
      dsimp only
      split
      · next e =>
        subst e
        have := and_le (x.2 q) (if ot < n then 2 ^ (if lw = 0 then ot else n - 1 - ot) else 0)
        have := (h q hq).2
        omega
      · exact (h q hq).2
    · split
      · exact h
      · split
        · intro q hq
          refine ⟨?_, (h q hq).2⟩
          dsimp only
          split
          · next e =>
            subst e
            exact (or2 _ (h q hq).1 ot (by omega)).1
          · exact (h q hq).1
        · intro q hq
          refine ⟨?_, (h q hq).2⟩
          dsimp only
          split
          · next e =>
            subst e
            exact (or2 _ (h q hq).1 pe (by omega)).1
          · exact (h q hq).1
def mc (x : (Nat → Nat) × (Nat → Nat)) (p come : Nat) : Bool := !bitk come p && Nat.beq (x.1 p &&& (127 - come)) 0 && bitk (x.2 p) (pcn come)
/-- the masks stand in the rows -/
def hdS (n : Nat) (x : (Nat → Nat) × (Nat → Nat)) (σ : Nat → Nat → Int32) : Prop := ∀ q, q < n → σ 42 q = Int32.ofInt (x.1 q : Int) ∧ σ 43 q = Int32.ofInt (x.2 q : Int)
section OR
variable {n w3 : Nat} {g : Nat → Nat × Nat} {σ : Nat → Nat → Int32} {τ : Nat → Nat → Int64} {r1 r2 : Nat} {A : aN} {B : aZ}
set_option maxHeartbeats 1000000 in
set_option maxRecDepth 100000 in
theorem s_heed (d : Nat) (Q : am_Q) {N lw kd pe ot : Nat} {x : (Nat → Nat) × (Nat → Nat)} (hN : N ≤ 7) (hlw : lw ≤ 1) (hkd : kd ≤ 1) (hpe : pe < 7) (hot : ot < 7) (h7 : m7 N x) (hn : σ 39 4 = Int32.ofInt (N : Int)) (hs : hdS N x σ)
    (h : ∀ σ' : Nat → Nat → Int32, (∀ c, c ≠ 42 → c ≠ 43 → σ' c = σ c) → hdS N (hd1 N lw kd pe ot x) σ' → Q (some (.int (if hd2 N kd pe ot = true then 1 else 0))) (lo_M n w3 g σ' τ r1 r2)) :
    am_d (d + 2) 19 [.ref 39, .int (Int32.ofInt (kd : Int)), .int (Int32.ofInt (pe : Int)), .int (Int32.ofInt (ot : Int)), .int (Int32.ofInt (lw : Int))] 0 0 (lo_M n w3 g σ τ r1 r2) Q := by
  unfold hd1 hd2 at h
  refine am_goT T_X3_heed [.ref 39, .int (Int32.ofInt (kd : Int)), .int (Int32.ofInt (pe : Int)), .int (Int32.ofInt (ot : Int)), .int (Int32.ofInt (lw : Int)), .null] rfl rfl (fun pc => Nat.beq pc 31) 80 ?_
  refine And.intro (fun c1 => ?_) (fun c1 => ?_)
  · have c1 : Int32.ofInt (pe : Int) < σ 39 4 := c1
    rw [hn, zlt (by unfold zr; omega) (by unfold zr; omega)] at c1
    rw [if_neg (show ¬ N ≤ pe by omega), if_neg (show ¬ N ≤ pe by omega)] at h
    obtain ⟨x1, x2⟩ := h7 pe (by omega)
    obtain ⟨z1, z2⟩ := hs pe (by omega)
    refine And.intro (fun c2 => ?_) (fun c2 => ?_)
    · rw [zeq0 (by unfold zr; omega)] at c2
      rw [if_pos (show kd = 0 by omega), if_pos (show kd = 0 by omega)] at h
      have fin : ∀ v : Int32, v = Int32.ofInt ((x.2 pe &&& (if ot < N then 2 ^ (if lw = 0 then ot else N - 1 - ot) else 0) : Nat) : Int) → Q (some (.int 1)) (lo_M n w3 g (am_u σ 43 pe v) τ r1 r2) := by
        intro v hv
        refine h (am_u σ 43 pe v) (fun c _ e => am_u_ne e) (fun q hq => ?_)
        refine ⟨by rw [am_u_ne (by decide)]; exact (hs q hq).1, ?_⟩
        rw [am_u_at]
        dsimp only
        by_cases e : q = pe
        · rw [if_pos e, if_pos e, hv]
        · rw [if_neg e, if_neg e]
          exact (hs q hq).2
      have pl : ∀ z : Int, zr z → (0 ≤ z ∧ z ≤ (N : Int) - 1 ↔ ot < N) → (ot < N → z = ((if lw = 0 then ot else N - 1 - ot : Nat) : Int)) → am_wp (am_d (d + 1)) T_X3_heed Q (31, [.ref 39, .int (Int32.ofInt (kd : Int)), .int (Int32.ofInt (pe : Int)), .int (Int32.ofInt (ot : Int)), .int (Int32.ofInt (lw : Int)), .null], [.int (Int32.ofInt z)], 0, 0) (lo_M n w3 g σ τ r1 r2) := by
        intro z hz hzi hze
        refine am_wp_go (am_d_cm _) (fun _ => false) 60 ?_
        refine ixi pe 7 hpe ?_
        show am_d (d + 1) 88 [.int (Int32.ofInt z), .int (Int32.ofInt 0), .int (σ 39 4 - Int32.ofInt 1)] 0 0 _ _
        rw [hn, zsub]
        refine s_withinZ d hz (by unfold zr; omega) (by unfold zr; omega) _ _ ?_
        by_cases c3 : ot < N
        · rw [if_pos (hzi.mpr c3)]
          refine And.intro (fun q => absurd q (by decide)) (fun _ => ?_)
          refine ixi pe 7 hpe ?_
          refine And.intro (Or.inr rfl) (fin _ ?_)
          show σ 43 pe &&& (Int32.ofInt 1 <<< (Int32.ofInt z &&& 31)) = _
          rw [hze c3, sh1 _ (by split <;> omega), z2, andz, if_pos c3]
        · rw [if_neg (fun q => c3 (hzi.mp q))]
          refine And.intro (fun _ => ?_) (fun q => absurd rfl q)
          refine ixi pe 7 hpe ?_
          refine And.intro (Or.inr rfl) (fin _ ?_)
          show σ 43 pe &&& Int32.ofInt ((0 : Nat) : Int) = _
          rw [z2, andz, if_neg c3]
      refine And.intro (fun c3 => ?_) (fun c3 => ?_)
      · rw [zeq0 (by unfold zr; omega)] at c3
        exact pl (ot : Int) (by unfold zr; omega) (by omega) (fun _ => by rw [if_pos (by omega)])
      · rw [zeq0 (by unfold zr; omega)] at c3
        have key := pl ((N : Int) - 1 - (ot : Int)) (by unfold zr; omega) (by omega) (fun _ => by rw [if_neg (by omega)]; omega)
        rw [← zsub, ← zsub, ← hn] at key
        exact key
    · rw [zeq0 (by unfold zr; omega)] at c2
      rw [if_neg (show ¬ kd = 0 by omega), if_neg (show ¬ kd = 0 by omega)] at h
      refine And.intro (fun c3 => ?_) (fun c3 => ?_)
      · have c3 : Int32.ofInt (ot : Int) < σ 39 4 := c3
        rw [hn, zlt (by unfold zr; omega) (by unfold zr; omega)] at c3
        rw [if_neg (show ¬ N ≤ ot by omega), if_neg (show ¬ N ≤ ot by omega)] at h
        refine And.intro (fun c4 => ?_) (fun c4 => ?_)
        · rw [zeq0 (by unfold zr; omega)] at c4
          rw [if_pos (show lw = 0 by omega)] at h
          refine ixi pe 7 hpe ?_
          refine ixi pe 7 hpe ?_
          refine And.intro (Or.inr rfl) ?_
          refine h (am_u σ 42 pe (σ 42 pe ||| (Int32.ofInt 1 <<< (Int32.ofInt (ot : Int) &&& 31)))) (fun c e _ => am_u_ne e) (fun q hq => ?_)
          refine ⟨?_, by rw [am_u_ne (by decide)]; exact (hs q hq).2⟩
          rw [am_u_at]
          dsimp only
          by_cases e : q = pe
          · rw [if_pos e, if_pos e, z1, (orv _ x1 _ hot).1]
          · rw [if_neg e, if_neg e]
            exact (hs q hq).1
        · rw [zeq0 (by unfold zr; omega)] at c4
          rw [if_neg (show ¬ lw = 0 by omega)] at h
          refine ixi ot 7 hot ?_
          refine ixi ot 7 hot ?_
          refine And.intro (Or.inr rfl) ?_
          refine h (am_u σ 42 ot (σ 42 ot ||| (Int32.ofInt 1 <<< (Int32.ofInt (pe : Int) &&& 31)))) (fun c e _ => am_u_ne e) (fun q hq => ?_)
          refine ⟨?_, by rw [am_u_ne (by decide)]; exact (hs q hq).2⟩
          rw [am_u_at]
          dsimp only
          by_cases e : q = ot
          · rw [if_pos e, if_pos e, (hs ot (by omega)).1, (orv _ (h7 ot (by omega)).1 _ hpe).1]
          · rw [if_neg e, if_neg e]
            exact (hs q hq).1
      · have c3 : ¬ Int32.ofInt (ot : Int) < σ 39 4 := c3
        rw [hn, zlt (by unfold zr; omega) (by unfold zr; omega)] at c3
        rw [if_pos (show N ≤ ot by omega), if_pos (show N ≤ ot by omega)] at h
        exact And.intro (Or.inl rfl) (h σ (fun _ _ _ => rfl) hs)
  · have c1 : ¬ Int32.ofInt (pe : Int) < σ 39 4 := c1
    rw [hn, zlt (by unfold zr; omega) (by unfold zr; omega)] at c1
    rw [if_pos (show N ≤ pe by omega), if_pos (show N ≤ pe by omega)] at h
    exact And.intro (Or.inl rfl) (h σ (fun _ _ _ => rfl) hs)
set_option maxRecDepth 100000 in
theorem s_mayCome (d : Nat) (Q : am_Q) {N p come : Nat} {x : (Nat → Nat) × (Nat → Nat)} (hN : N ≤ 7) (hp : p < N) (hc : come < 128) (h7 : m7 N x) (hs : hdS N x σ) (h : Q (some (.int (if mc x p come = true then 1 else 0))) (lo_M n w3 g σ τ r1 r2)) : am_d (d + 2) 20 [.ref 39, .int (Int32.ofInt (p : Int)), .int (Int32.ofInt (come : Int))] 0 0 (lo_M n w3 g σ τ r1 r2) Q := by
  obtain ⟨x1, x2⟩ := h7 p hp
  obtain ⟨z1, z2⟩ := hs p hp
  unfold mc at h
  refine am_goT T_X3_mayCome [.ref 39, .int (Int32.ofInt (p : Int)), .int (Int32.ofInt (come : Int))] rfl rfl (fun _ => false) 60 ?_
  refine And.intro (fun c1 => ?_) (fun c1 => ?_)
  · have c1 : (Int32.ofInt (come : Int) >>> (Int32.ofInt (p : Int) &&& 31)) &&& Int32.ofInt 1 = 0 := c1
    rw [bitv7 come hc p (by omega)] at c1
    have b1 : bitk come p = false := by
      cases e : bitk come p with
      | false => rfl
      | true =>
        rw [e] at c1
        exact absurd c1 (by decide)
    rw [b1] at h
    refine ixi p 7 (by omega) ?_
    refine And.intro (fun c2 => ?_) (fun c2 => ?_)
    · have c2 : σ 42 p &&& (Int32.ofInt (come : Int) ^^^ Int32.ofInt (-1)) = 0 := c2
      have l2 := and_le (x.1 p) (127 - come)
      rw [z1, andn _ x1 _ hc, zeq0 (by unfold zr; omega)] at c2
      have b2 : Nat.beq (x.1 p &&& (127 - come)) 0 = true := by
        rw [show x.1 p &&& (127 - come) = 0 by omega]
        rfl
      rw [b2] at h
      refine ixi p 7 (by omega) ?_
      refine s_bitCount d hc _ _ ?_
      have e3 : (σ 43 p >>> (Int32.ofInt (pcn come : Int) &&& 31)) &&& Int32.ofInt 1 = Int32.ofInt (if bitk (x.2 p) (pcn come) = true then 1 else 0) := by
        have := pcn_le come
        rw [z2, bitv7 _ x2 _ (by omega)]
      cases e : bitk (x.2 p) (pcn come) with
      | false =>
        rw [e] at h e3
        refine And.intro (fun c3 => ?_) (fun c3 => ?_)
        · have c3 : (σ 43 p >>> (Int32.ofInt (pcn come : Int) &&& 31)) &&& Int32.ofInt 1 = Int32.ofInt 1 := c3
          rw [e3] at c3
          exact absurd c3 (by decide)
        · exact And.intro (Or.inl rfl) h
      | true =>
        rw [e] at h e3
        refine And.intro (fun c3 => ?_) (fun c3 => ?_)
        · exact And.intro (Or.inr rfl) h
        · exact absurd (show (σ 43 p >>> (Int32.ofInt (pcn come : Int) &&& 31)) &&& Int32.ofInt 1 = Int32.ofInt 1 from e3) c3
    · have c2 : ¬ σ 42 p &&& (Int32.ofInt (come : Int) ^^^ Int32.ofInt (-1)) = 0 := c2
      have l2 := and_le (x.1 p) (127 - come)
      rw [z1, andn _ x1 _ hc, zeq0 (by unfold zr; omega)] at c2
      have b2 : Nat.beq (x.1 p &&& (127 - come)) 0 = false := by
        cases e : Nat.beq (x.1 p &&& (127 - come)) 0 with
        | false => rfl
        | true =>
          have := Nat.eq_of_beq_eq_true e
          omega
      rw [b2] at h
      exact And.intro (Or.inl rfl) h
  · have c1 : ¬ (Int32.ofInt (come : Int) >>> (Int32.ofInt (p : Int) &&& 31)) &&& Int32.ofInt 1 = 0 := c1
    rw [bitv7 come hc p (by omega)] at c1
    have b1 : bitk come p = true := by
      cases e : bitk come p with
      | true => rfl
      | false =>
        rw [e] at c1
        exact absurd rfl c1
    rw [b1] at h
    exact And.intro (Or.inl rfl) h
end OR
end
section
/-! Orders: ways to a set, ways on from it -/
/-- one more way -/
def updw (w : Nat → Nat) (c v : Nat) : Nat → Nat := fun c' => if c' = c then v else w c'
/-- sum of f 0 .. f (k - 1) -/
def nsum (f : Nat → Nat) : Nat → Nat
  | 0 => 0
  | k + 1 => nsum f k + f k
theorem nsum_s (f : Nat → Nat) (k : Nat) : nsum f (k + 1) = nsum f k + f k := rfl
section WA
variable {n w3 : Nat} {g : Nat → Nat × Nat} {σ : Nat → Nat → Int32} {τ : Nat → Nat → Int64} {r1 r2 : Nat} {A : aN} {B : aZ}
theorem two7 {N : Nat} (h : N ≤ 7) : 2 ^ N ≤ 128 ∧ 0 < 2 ^ N := ⟨Nat.pow_le_pow_right (n := 2) (by omega) h, Nat.pow_pos (by omega)⟩
set_option maxHeartbeats 1000000 in
set_option maxRecDepth 100000 in
theorem s_wt_in (d : Nat) (Q : am_Q) {N come : Nat} {x : (Nat → Nat) × (Nat → Nat)} {x1 : Int32} {I : Nat → Nat → (Nat → Nat) → Prop} (hN : N ≤ 7) (h7 : m7 N x) (hcome : come < 2 ^ N) (i1 : ∀ come p w, I come p w → w come ≤ 1000000000) (i2 : ∀ come p w, come < 2 ^ N → p < N → I come p w → 0 < w come → mc x p come = true → I come (p + 1) (updw w (come ||| 2 ^ p) (w (come ||| 2 ^ p) + w come))) (i3 : ∀ come p w, come < 2 ^ N → p < N → I come p w → ¬ (0 < w come ∧ mc x p come = true) → I come (p + 1) w) : ∀ (k p : Nat) (w : Nat → Nat) (σ : Nat → Nat → Int32), p + k = N → I come p w → hdS N x σ → σ 39 4 = Int32.ofInt (N : Int) → (∀ c, c < 2 ^ N → σ 40 c = Int32.ofInt (w c : Int)) →
    (∀ (w' : Nat → Nat) (σ' : Nat → Nat → Int32), (∀ c, c ≠ 40 → σ' c = σ c) → (∀ c, c < 2 ^ N → σ' 40 c = Int32.ofInt (w' c : Int)) → I come N w' → am_wp (am_d (d + 2)) T_X3_countWaysTo Q (40, [.ref 39, .int x1, .int (Int32.ofInt ((come + 1 : Nat) : Int)), .int (Int32.ofInt (N : Int))], [], 0, 0) (lo_M n w3 g σ' τ r1 r2)) →
    am_wp (am_d (d + 2)) T_X3_countWaysTo Q (50, [.ref 39, .int x1, .int (Int32.ofInt (come : Int)), .int (Int32.ofInt (p : Int))], [], 0, 0) (lo_M n w3 g σ τ r1 r2) := by
  have t7 := two7 hN
  intro k
  induction k with
  | zero =>
    intro p w σ hp hI hs hn hw h
    have hpe : p = N := by omega
    subst hpe
    have h := h w σ (fun _ _ => rfl) hw hI
    rw [show ((come + 1 : Nat) : Int) = (come : Int) + 1 by omega, ← zadd] at h
    refine am_wp_go (am_d_cm _) (fun pc => Nat.beq pc 40 || Nat.beq pc 50) 60 ?_
    refine And.intro (fun c1 => ?_) (fun c1 => absurd ?_ c1)
    · exact h
    · show σ 39 4 ≤ _
      rw [hn, zle (by unfold zr; omega) (by unfold zr; omega)]
      omega
  | succ k ih =>
    intro p w σ hp hI hs hn hw h
    have ep : Int32.ofInt (p : Int) + Int32.ofInt 1 = Int32.ofInt ((p + 1 : Nat) : Int) := by
      rw [zadd]
      congr 1
    have hb := i1 come p w hI
    have hpN : p < N := by omega
    refine am_wp_go (am_d_cm _) (fun pc => Nat.beq pc 40 || Nat.beq pc 50) 60 ?_
    refine And.intro (fun c1 => ?_) (fun c1 => ?_)
    · have c1 : σ 39 4 ≤ Int32.ofInt (p : Int) := c1
      rw [hn, zle (by unfold zr; omega) (by unfold zr; omega)] at c1
      omega
    · have skip : ¬ (0 < w come ∧ mc x p come = true) → am_wp (am_d (d + 2)) T_X3_countWaysTo Q (50, [.ref 39, .int x1, .int (Int32.ofInt (come : Int)), .int (Int32.ofInt (p : Int) + Int32.ofInt 1)], [], 0, 0) (lo_M n w3 g σ τ r1 r2) := by
        intro c
        rw [ep]
        exact ih (p + 1) w σ (by omega) (i3 come p w hcome hpN hI c) hs hn hw h
      refine ixi come 128 (by omega) ?_
      refine And.intro (fun c2 => ?_) (fun c2 => ?_)
      · have c2 : σ 40 come ≤ 0 := c2
        rw [hw come hcome, zle0 (by unfold zr; omega)] at c2
        exact skip (fun q => by omega)
      · have c2 : ¬ σ 40 come ≤ 0 := c2
        rw [hw come hcome, zle0 (by unfold zr; omega)] at c2
        refine s_mayCome d _ hN hpN (by omega) h7 hs ?_
        by_cases c3 : mc x p come = true
        · rw [if_pos c3]
          refine And.intro (fun q => absurd q (by decide)) (fun _ => ?_)
          have o3 := or3 N (by omega) come (by omega) p hpN hcome
          have eo := (orv come (by omega) p (by omega)).1
          refine ixi (come ||| 2 ^ p) 128 (by omega) ?_ eo
          refine ixi come 128 (by omega) ?_
          refine ixi (come ||| 2 ^ p) 128 (by omega) ?_ eo
          show am_wp _ _ _ (50, [.ref 39, .int x1, .int (Int32.ofInt (come : Int)), .int (Int32.ofInt (p : Int) + Int32.ofInt 1)], [], 0, 0) (lo_M n w3 g (am_u σ 40 (come ||| 2 ^ p) (σ 40 (come ||| 2 ^ p) + σ 40 come)) τ r1 r2)
          rw [ep]
          refine ih (p + 1) (updw w (come ||| 2 ^ p) (w (come ||| 2 ^ p) + w come)) _ (by omega) (i2 come p w hcome hpN hI (by omega) c3) hs hn (fun c hc => ?_) (fun w' σ' k1 k2 k3 => h w' σ' (fun c e => by rw [k1 c e, am_u_ne e]) k2 k3)
          rw [am_u_at]
          unfold updw
          by_cases e : c = come ||| 2 ^ p
          · rw [if_pos e, if_pos e, hw _ o3, hw come hcome, zadd]
            congr 1
          · rw [if_neg e, if_neg e]
            exact hw c hc
        · rw [if_neg c3]
          refine And.intro (fun _ => ?_) (fun q => absurd rfl q)
          exact skip (fun q => c3 q.2)
set_option maxRecDepth 100000 in
theorem s_wt_out (d : Nat) (Q : am_Q) {N : Nat} {x : (Nat → Nat) × (Nat → Nat)} {x1 : Int32} {I : Nat → Nat → (Nat → Nat) → Prop} (hN : N ≤ 7) (h7 : m7 N x) (i1 : ∀ come p w, I come p w → w come ≤ 1000000000) (i2 : ∀ come p w, come < 2 ^ N → p < N → I come p w → 0 < w come → mc x p come = true → I come (p + 1) (updw w (come ||| 2 ^ p) (w (come ||| 2 ^ p) + w come))) (i3 : ∀ come p w, come < 2 ^ N → p < N → I come p w → ¬ (0 < w come ∧ mc x p come = true) → I come (p + 1) w) (i4 : ∀ come w, come < 2 ^ N → I come N w → I (come + 1) 0 w) : ∀ (k come : Nat) (w : Nat → Nat) (σ : Nat → Nat → Int32) (x3 : Value), come + k = 2 ^ N → I come 0 w → hdS N x σ → σ 39 4 = Int32.ofInt (N : Int) → σ 39 5 = Int32.ofInt ((2 ^ N - 1 : Nat) : Int) → (∀ c, c < 2 ^ N → σ 40 c = Int32.ofInt (w c : Int)) →
    (∀ (w' : Nat → Nat) (σ' : Nat → Nat → Int32), (∀ c, c ≠ 40 → σ' c = σ c) → (∀ c, c < 2 ^ N → σ' 40 c = Int32.ofInt (w' c : Int)) → I (2 ^ N) 0 w' → Q none (lo_M n w3 g σ' τ r1 r2)) →
    am_wp (am_d (d + 2)) T_X3_countWaysTo Q (40, [.ref 39, .int x1, .int (Int32.ofInt (come : Int)), x3], [], 0, 0) (lo_M n w3 g σ τ r1 r2) := by
  have t7 := two7 hN
  intro k
  induction k with
  | zero =>
    intro come w σ x3 hc hI hs hn ha hw h
    have hce : come = 2 ^ N := by omega
    subst hce
    refine am_wp_go (am_d_cm _) (fun pc => Nat.beq pc 40 || Nat.beq pc 50) 60 ?_
    refine And.intro (fun c1 => ?_) (fun c1 => absurd ?_ c1)
    · exact h w σ (fun _ _ => rfl) hw hI
    · show σ 39 5 < _
      rw [ha, zlt (by unfold zr; omega) (by unfold zr; omega)]
      omega
  | succ k ih =>
    intro come w σ x3 hc hI hs hn ha hw h
    refine am_wp_go (am_d_cm _) (fun pc => Nat.beq pc 40 || Nat.beq pc 50) 60 ?_
    refine And.intro (fun c1 => ?_) (fun c1 => ?_)
    · have c1 : σ 39 5 < Int32.ofInt (come : Int) := c1
      rw [ha, zlt (by unfold zr; omega) (by unfold zr; omega)] at c1
      omega
    · refine s_wt_in d Q hN h7 (show come < 2 ^ N by omega) i1 i2 i3 N 0 w σ (by omega) hI hs hn hw (fun w' σ' k1 k2 k3 => ?_)
      refine ih (come + 1) w' σ' _ (by omega) (i4 come w' (by omega) k3) (by unfold hdS; rw [k1 42 (by decide), k1 43 (by decide)]; exact hs) (by rw [k1 39 (by decide)]; exact hn) (by rw [k1 39 (by decide)]; exact ha) k2 (fun w2 σ2 m1 m2 m3 => h w2 σ2 (fun c e => by rw [m1 c e, k1 c e]) m2 m3)
set_option maxRecDepth 100000 in
theorem s_wt_zero (d : Nat) (Q : am_Q) {N : Nat} {ps : Bool} (hN : N ≤ 7) : ∀ (k come : Nat) (σ : Nat → Nat → Int32) (x3 : Value), come + k = 2 ^ N → σ 39 5 = Int32.ofInt ((2 ^ N - 1 : Nat) : Int) → (∀ c, c < come → σ 40 c = Int32.ofInt 0) →
    (∀ (σ' : Nat → Nat → Int32), (∀ c, c ≠ 40 → σ' c = σ c) → (∀ c, c < 2 ^ N → σ' 40 c = Int32.ofInt ((if c = 0 ∧ ps = true then 1 else 0 : Nat) : Int)) → am_wp (am_d d) T_X3_countWaysTo Q (40, [.ref 39, .int (if ps = true then 1 else 0), .int (Int32.ofInt ((0 : Nat) : Int)), x3], [], 0, 0) (lo_M n w3 g σ' τ r1 r2)) →
    am_wp (am_d d) T_X3_countWaysTo Q (2, [.ref 39, .int (if ps = true then 1 else 0), .int (Int32.ofInt (come : Int)), x3], [], 0, 0) (lo_M n w3 g σ τ r1 r2) := by
  have t7 := two7 hN
  intro k
  induction k with
  | zero =>
    intro come σ x3 hc ha hz h
    refine am_wp_go (am_d_cm _) (fun pc => Nat.beq pc 40 || Nat.beq pc 2) 60 ?_
    refine And.intro (fun c1 => ?_) (fun c1 => absurd ?_ c1)
    · cases ps with
      | true =>
        refine And.intro (fun q => absurd (show (1 : Int32) = 0 from q) (by decide)) (fun _ => ?_)
        refine ixi 0 128 (by omega) ?_
        refine h (am_u σ 40 0 (Int32.ofInt 1)) (fun c e => am_u_ne e) (fun c hc2 => ?_)
        rw [am_u_at]
        by_cases e : c = 0
        · rw [if_pos e, if_pos ⟨e, rfl⟩]
          rfl
        · rw [if_neg e, if_neg (fun q => e q.1)]
          exact hz c (by omega)
      | false =>
        refine And.intro (fun _ => ?_) (fun q => absurd (show (if false = true then (1 : Int32) else 0) = 0 from rfl) q)
        refine ixi 0 128 (by omega) ?_
        refine h (am_u σ 40 0 (Int32.ofInt 0)) (fun c e => am_u_ne e) (fun c hc2 => ?_)
        have e0 : (if c = 0 ∧ false = true then 1 else 0 : Nat) = 0 := if_neg (fun q => absurd q.2 (by decide))
        rw [am_u_at, e0]
        by_cases e : c = 0
        · rw [if_pos e]
          rfl
        · rw [if_neg e]
          exact hz c (by omega)
    · show σ 39 5 < _
      rw [ha, zlt (by unfold zr; omega) (by unfold zr; omega)]
      omega
  | succ k ih =>
    intro come σ x3 hc ha hz h
    refine am_wp_go (am_d_cm _) (fun pc => Nat.beq pc 40 || Nat.beq pc 2) 60 ?_
    refine And.intro (fun c1 => ?_) (fun c1 => ?_)
    · have c1 : σ 39 5 < Int32.ofInt (come : Int) := c1
      rw [ha, zlt (by unfold zr; omega) (by unfold zr; omega)] at c1
      omega
    · refine ixi come 128 (by omega) ?_
      show am_wp _ _ _ (2, [.ref 39, .int (if ps = true then 1 else 0), .int (Int32.ofInt (come : Int) + Int32.ofInt 1), x3], [], 0, 0) (lo_M n w3 g (am_u σ 40 come (Int32.ofInt 0)) τ r1 r2)
      rw [zadd, show ((come : Int) + 1) = ((come + 1 : Nat) : Int) by omega]
      refine ih (come + 1) _ x3 (by omega) ha (fun c hc2 => ?_) (fun σ' k1 k2 => h σ' (fun c e => by rw [k1 c e, am_u_ne e]) k2)
      rw [am_u_at]
      by_cases e : c = come
      · rw [if_pos e]
      · rw [if_neg e]
        exact hz c (by omega)
set_option maxRecDepth 100000 in
theorem s_waysTo (d : Nat) (Q : am_Q) {N : Nat} {x : (Nat → Nat) × (Nat → Nat)} {ps : Bool} {I : Nat → Nat → (Nat → Nat) → Prop} (hN : N ≤ 7) (h7 : m7 N x) (i1 : ∀ come p w, I come p w → w come ≤ 1000000000) (i2 : ∀ come p w, come < 2 ^ N → p < N → I come p w → 0 < w come → mc x p come = true → I come (p + 1) (updw w (come ||| 2 ^ p) (w (come ||| 2 ^ p) + w come))) (i3 : ∀ come p w, come < 2 ^ N → p < N → I come p w → ¬ (0 < w come ∧ mc x p come = true) → I come (p + 1) w) (i4 : ∀ come w, come < 2 ^ N → I come N w → I (come + 1) 0 w) (i0 : I 0 0 (fun c => if c = 0 ∧ ps = true then 1 else 0)) (hs : hdS N x σ) (hn : σ 39 4 = Int32.ofInt (N : Int)) (ha : σ 39 5 = Int32.ofInt ((2 ^ N - 1 : Nat) : Int))
    (h : ∀ (w' : Nat → Nat) (σ' : Nat → Nat → Int32), (∀ c, c ≠ 40 → σ' c = σ c) → (∀ c, c < 2 ^ N → σ' 40 c = Int32.ofInt (w' c : Int)) → I (2 ^ N) 0 w' → Q none (lo_M n w3 g σ' τ r1 r2)) :
    am_d (d + 3) 21 [.ref 39, .int (if ps = true then 1 else 0)] 0 0 (lo_M n w3 g σ τ r1 r2) Q := by
  refine am_goT T_X3_countWaysTo [.ref 39, .int (if ps = true then 1 else 0), .null, .null] rfl rfl (fun pc => Nat.beq pc 2) 60 ?_
  refine s_wt_zero (d + 2) Q hN (2 ^ N) 0 σ .null (by omega) ha (fun c hc => by omega) (fun σ' k1 k2 => ?_)
  exact s_wt_out d Q hN h7 i1 i2 i3 i4 (2 ^ N) 0 _ σ' .null (by omega) i0 (by unfold hdS; rw [k1 42 (by decide), k1 43 (by decide)]; exact hs) (by rw [k1 39 (by decide)]; exact hn) (by rw [k1 39 (by decide)]; exact ha) k2 (fun w2 σ2 m1 m2 m3 => h w2 σ2 (fun c e => by rw [m1 c e, k1 c e]) m2 m3)
/-- ways on: F fits -/
def onF (N : Nat) (x : (Nat → Nat) × (Nat → Nat)) (F : Nat → Nat) : Prop := F (2 ^ N - 1) = 1 ∧ ∀ come, come < 2 ^ N - 1 → F come = nsum (fun p => if mc x p come = true then F (come ||| 2 ^ p) else 0) N
theorem mc_bit {x : (Nat → Nat) × (Nat → Nat)} {p come : Nat} (h : mc x p come = true) : bitk come p = false := by
  unfold mc at h
  cases e : bitk come p with
  | false => rfl
  | true =>
    rw [e] at h
    simp at h
set_option maxHeartbeats 1000000 in
set_option maxRecDepth 100000 in
theorem s_wo_in (d : Nat) (Q : am_Q) {N come : Nat} {x : (Nat → Nat) × (Nat → Nat)} {F : Nat → Nat} (hN : N ≤ 7) (h7 : m7 N x) (hcome : come < 2 ^ N - 1) : ∀ (k p : Nat) (σ : Nat → Nat → Int32), p + k = N → hdS N x σ → σ 39 4 = Int32.ofInt (N : Int) → σ 41 come = Int32.ofInt ((nsum (fun p => if mc x p come = true then F (come ||| 2 ^ p) else 0) p : Nat) : Int) → (∀ c, come < c → c < 2 ^ N → σ 41 c = Int32.ofInt (F c : Int)) →
    (∀ (σ' : Nat → Nat → Int32), (∀ c, c ≠ 41 → σ' c = σ c) → (∀ c, come < c → c < 2 ^ N → σ' 41 c = Int32.ofInt (F c : Int)) → σ' 41 come = Int32.ofInt ((nsum (fun p => if mc x p come = true then F (come ||| 2 ^ p) else 0) N : Nat) : Int) → am_wp (am_d (d + 2)) T_X3_countWaysOn Q (17, [.ref 39, .int (Int32.ofInt ((come : Int) - 1)), .int (Int32.ofInt (N : Int))], [], 0, 0) (lo_M n w3 g σ' τ r1 r2)) →
    am_wp (am_d (d + 2)) T_X3_countWaysOn Q (30, [.ref 39, .int (Int32.ofInt (come : Int)), .int (Int32.ofInt (p : Int))], [], 0, 0) (lo_M n w3 g σ τ r1 r2) := by
  have t7 := two7 hN
  intro k
  induction k with
  | zero =>
    intro p σ hp hs hn hw hF h
    have hpe : p = N := by omega
    subst hpe
    have h := h σ (fun _ _ => rfl) hF hw
    rw [show (come : Int) - 1 = (come : Int) + (-1) by omega, ← zadd] at h
    refine am_wp_go (am_d_cm _) (fun pc => Nat.beq pc 17 || Nat.beq pc 30) 60 ?_
    refine And.intro (fun c1 => ?_) (fun c1 => absurd ?_ c1)
    · exact h
    · show σ 39 4 ≤ _
      rw [hn, zle (by unfold zr; omega) (by unfold zr; omega)]
      omega
  | succ k ih =>
    intro p σ hp hs hn hw hF h
    have ep : Int32.ofInt (p : Int) + Int32.ofInt 1 = Int32.ofInt ((p + 1 : Nat) : Int) := by
      rw [zadd]
      congr 1
    have hpN : p < N := by omega
    refine am_wp_go (am_d_cm _) (fun pc => Nat.beq pc 17 || Nat.beq pc 30) 60 ?_
    refine And.intro (fun c1 => ?_) (fun c1 => ?_)
    · have c1 : σ 39 4 ≤ Int32.ofInt (p : Int) := c1
      rw [hn, zle (by unfold zr; omega) (by unfold zr; omega)] at c1
      omega
    · refine s_mayCome d _ hN hpN (by omega) h7 hs ?_
      by_cases c3 : mc x p come = true
      · rw [if_pos c3]
        refine And.intro (fun q => absurd q (by decide)) (fun _ => ?_)
        have o3 := or3 N (by omega) come (by omega) p hpN (by omega)
        have o2 := ((or2 come (by omega) p (by omega)).2 (mc_bit c3)).1
        have op : 0 < 2 ^ p := Nat.pow_pos (by omega)
        have eo := (orv come (by omega) p (by omega)).1
        refine ixi come 128 (by omega) ?_
        refine ixi (come ||| 2 ^ p) 128 (by omega) ?_ eo
        refine ixi come 128 (by omega) ?_
        show am_wp _ _ _ (30, [.ref 39, .int (Int32.ofInt (come : Int)), .int (Int32.ofInt (p : Int) + Int32.ofInt 1)], [], 0, 0) (lo_M n w3 g (am_u σ 41 come (σ 41 come + σ 41 (come ||| 2 ^ p))) τ r1 r2)
        rw [ep]
        refine ih (p + 1) _ (by omega) hs hn ?_ (fun c h1 h2 => ?_) (fun σ' k1 k2 k3 => h σ' (fun c e => by rw [k1 c e, am_u_ne e]) k2 k3)
        · rw [am_u_at, if_pos rfl, hw, hF _ (by omega) o3, zadd]
          congr 1
          rw [nsum_s, if_pos c3]
          omega
        · rw [am_u_at, if_neg (by omega)]
          exact hF c h1 h2
      · rw [if_neg c3]
        refine And.intro (fun _ => ?_) (fun q => absurd rfl q)
        show am_wp _ _ _ (30, [.ref 39, .int (Int32.ofInt (come : Int)), .int (Int32.ofInt (p : Int) + Int32.ofInt 1)], [], 0, 0) (lo_M n w3 g σ τ r1 r2)
        rw [ep]
        refine ih (p + 1) σ (by omega) hs hn ?_ hF h
        rw [hw]
        congr 1
        conv => rhs; unfold nsum
        rw [if_neg c3, Nat.add_zero]
set_option maxRecDepth 100000 in
theorem s_wo_out (d : Nat) (Q : am_Q) {N : Nat} {x : (Nat → Nat) × (Nat → Nat)} {F : Nat → Nat} (hN : N ≤ 7) (h7 : m7 N x) (hF : onF N x F) : ∀ (k : Nat) (σ : Nat → Nat → Int32) (x3 : Value), k ≤ 2 ^ N - 1 → hdS N x σ → σ 39 4 = Int32.ofInt (N : Int) → (∀ c, k ≤ c → c < 2 ^ N → σ 41 c = Int32.ofInt (F c : Int)) →
    (∀ (σ' : Nat → Nat → Int32), (∀ c, c ≠ 41 → σ' c = σ c) → (∀ c, c < 2 ^ N → σ' 41 c = Int32.ofInt (F c : Int)) → Q none (lo_M n w3 g σ' τ r1 r2)) →
    am_wp (am_d (d + 2)) T_X3_countWaysOn Q (17, [.ref 39, .int (Int32.ofInt ((k : Int) - 1)), x3], [], 0, 0) (lo_M n w3 g σ τ r1 r2) := by
  have t7 := two7 hN
  intro k
  induction k with
  | zero =>
    intro σ x3 hk hs hn hw h
    refine am_wp_go (am_d_cm _) (fun pc => Nat.beq pc 17 || Nat.beq pc 30) 60 ?_
    refine And.intro (fun c1 => ?_) (fun c1 => absurd ?_ c1)
    · exact h σ (fun _ _ => rfl) (fun c hc => hw c (by omega) hc)
    · rw [zlt0 (by unfold zr; omega)]
      omega
  | succ k ih =>
    intro σ x3 hk hs hn hw h
    rw [show ((k + 1 : Nat) : Int) - 1 = (k : Int) by omega]
    refine am_wp_go (am_d_cm _) (fun pc => Nat.beq pc 17 || Nat.beq pc 30) 60 ?_
    refine And.intro (fun c1 => ?_) (fun c1 => ?_)
    · rw [zlt0 (by unfold zr; omega)] at c1
      omega
    · refine ixi k 128 (by omega) ?_
      refine s_wo_in d Q (F := F) hN h7 (show k < 2 ^ N - 1 by omega) N 0 (am_u σ 41 k (Int32.ofInt 0)) (by omega) hs hn (by rw [am_u_at, if_pos rfl]; rfl) (fun c h1 h2 => by rw [am_u_at, if_neg (by omega)]; exact hw c (by omega) h2) (fun σ' k1 k2 k3 => ?_)
      refine ih σ' _ (by omega) (by unfold hdS; rw [k1 42 (by decide), k1 43 (by decide)]; exact hs) (by rw [k1 39 (by decide)]; exact hn) (fun c h1 h2 => ?_) (fun σ2 m1 m2 => h σ2 (fun c e => by rw [m1 c e, k1 c e, am_u_ne e]) m2)
      by_cases e : c = k
      · subst e
        rw [k3, hF.2 c (by omega)]
      · exact k2 c (by omega) h2
set_option maxRecDepth 100000 in
theorem s_waysOn (d : Nat) (Q : am_Q) {N : Nat} {x : (Nat → Nat) × (Nat → Nat)} {F : Nat → Nat} (hN : N ≤ 7) (h7 : m7 N x) (hF : onF N x F) (hs : hdS N x σ) (hn : σ 39 4 = Int32.ofInt (N : Int)) (ha : σ 39 5 = Int32.ofInt ((2 ^ N - 1 : Nat) : Int))
    (h : ∀ (σ' : Nat → Nat → Int32), (∀ c, c ≠ 41 → σ' c = σ c) → (∀ c, c < 2 ^ N → σ' 41 c = Int32.ofInt (F c : Int)) → Q none (lo_M n w3 g σ' τ r1 r2)) :
    am_d (d + 3) 22 [.ref 39] 0 0 (lo_M n w3 g σ τ r1 r2) Q := by
  have t7 := two7 hN
  refine am_goT T_X3_countWaysOn [.ref 39, .null, .null] rfl rfl (fun pc => Nat.beq pc 17) 60 ?_
  refine ixi (2 ^ N - 1) 128 (by omega) ?_ ha
  have key := s_wo_out (n := n) (w3 := w3) (g := g) (τ := τ) (r1 := r1) (r2 := r2) d Q hN h7 hF (2 ^ N - 1) (am_u σ 41 (2 ^ N - 1) (Int32.ofInt 1)) .null (Nat.le_refl _) hs hn (fun c h1 h2 => by rw [am_u_at, if_pos (by omega), show c = 2 ^ N - 1 by omega, hF.1]; rfl) (fun σ2 m1 m2 => h σ2 (fun c e => by rw [m1 c e, am_u_ne e]) m2)
  rw [← zsub, ← ha] at key
  exact key
end WA
end
section
/-! Orders: how many ways lead to a set, and on from it, in whole numbers -/
theorem pc1 : ∀ c : Nat, c < 128 → ∀ q : Nat, q < 7 → bitk c q = true → 2 ^ q ≤ c ∧ pcn (c - 2 ^ q) + 1 = pcn c ∧ bitk (c - 2 ^ q) q = false ∧ (c - 2 ^ q) ||| 2 ^ q = c := by decide +kernel
theorem bor1 : ∀ c : Nat, c < 128 → ∀ p : Nat, p < 7 → bitk (c ||| 2 ^ p) p = true := by decide +kernel
theorem pc0 : ∀ c : Nat, c < 128 → pcn c = 0 → c = 0 := by decide +kernel
theorem pcN : ∀ n : Nat, n < 8 → ∀ c : Nat, c < 128 → c < 2 ^ n → pcn c ≤ n ∧ (pcn c = n → c = 2 ^ n - 1) := by decide +kernel
theorem pcA : ∀ n : Nat, n < 8 → pcn (2 ^ n - 1) = n := by decide +kernel
/-- what the facts say: who comes ahead of whom, the places, whether all are there -/
def hdf (N lw : Nat) (k a b : Nat → Nat) : Nat → ((Nat → Nat) × (Nat → Nat)) × Bool
  | 0 => ((fun _ => 0, fun _ => 2 ^ N - 1), true)
  | f + 1 => (hd1 N lw (k f) (a f) (b f) (hdf N lw k a b f).1, hd2 N (k f) (a f) (b f) && (hdf N lw k a b f).2)
theorem hdf_7 {N lw : Nat} {k a b : Nat → Nat} (hN : N ≤ 7) : ∀ f, m7 N (hdf N lw k a b f).1
  | 0 => fun q hq => by
    have := two7 hN
    constructor
    · show 0 < 128
      omega
    · show 2 ^ N - 1 < 128
      omega
  | f + 1 => hd1_7 hN (hdf_7 hN f)
def Fk (N : Nat) (x : (Nat → Nat) × (Nat → Nat)) : Nat → Nat → Nat
  | 0, _ => 1
  | k + 1, c => nsum (fun p => if mc x p c = true then Fk N x k (c ||| 2 ^ p) else 0) N
def Fw (N : Nat) (x : (Nat → Nat) × (Nat → Nat)) (c : Nat) : Nat := Fk N x (N - pcn c) c
def Gk (N : Nat) (x : (Nat → Nat) × (Nat → Nat)) (ps : Bool) : Nat → Nat → Nat
  | 0, _ => if ps = true then 1 else 0
  | k + 1, c => nsum (fun q => if (bitk c q && mc x q (c - 2 ^ q)) = true then Gk N x ps k (c - 2 ^ q) else 0) N
def Gw (N : Nat) (x : (Nat → Nat) × (Nat → Nat)) (ps : Bool) (c : Nat) : Nat := Gk N x ps (pcn c) c
theorem nsum_congr {f f' : Nat → Nat} : ∀ k, (∀ q, q < k → f q = f' q) → nsum f k = nsum f' k
  | 0, _ => rfl
  | k + 1, h => by
    unfold nsum
    rw [nsum_congr k (fun q hq => h q (by omega)), h k (by omega)]
theorem nsum_one {f f' : Nat → Nat} {p : Nat} : ∀ k, p < k → (∀ q, q < k → q ≠ p → f q = f' q) → nsum f k + f' p = nsum f' k + f p
  | 0, h, _ => by omega
  | k + 1, h, e => by
    unfold nsum
    by_cases c : p = k
    · subst c
      rw [nsum_congr p (fun q hq => e q (by omega) (by omega))]
      omega
    · have := nsum_one k (by omega) (fun q hq => e q (by omega))
      rw [e k (by omega) (by omega)]
      omega
theorem nsum_le {f : Nat → Nat} {m : Nat} : ∀ k, (∀ q, q < k → f q ≤ m) → nsum f k ≤ k * m
  | 0, _ => by unfold nsum; omega
  | k + 1, h => by
    unfold nsum
    have h1 := nsum_le k (fun q hq => h q (by omega))
    have h2 := h k (by omega)
    rw [Nat.succ_mul]
    omega
theorem onF_Fw {N : Nat} (hN : N ≤ 7) (x : (Nat → Nat) × (Nat → Nat)) : onF N x (Fw N x) := by
  have t7 := two7 hN
  refine ⟨?_, fun come hc => ?_⟩
  · unfold Fw
    rw [pcA N (by omega), Nat.sub_self]
    rfl
  · obtain ⟨h1, h2⟩ := pcN N (by omega) come (by omega) (by omega)
    obtain ⟨k, hk⟩ : ∃ k, N - pcn come = k + 1 := ⟨N - pcn come - 1, by
      have : pcn come ≠ N := fun e => by
        have := h2 e
        omega
      omega⟩
    unfold Fw
    rw [hk]
    show nsum _ N = _
    refine nsum_congr N (fun p hp => ?_)
    by_cases c : mc x p come = true
    · rw [if_pos c, if_pos c, ((or2 come (by omega) p (by omega)).2 (mc_bit c)).2, show N - (pcn come + 1) = k by omega]
    · rw [if_neg c, if_neg c]
theorem Gw_0 {N : Nat} (x : (Nat → Nat) × (Nat → Nat)) (ps : Bool) : Gw N x ps 0 = if ps = true then 1 else 0 := rfl
theorem Gw_s {N : Nat} (hN : N ≤ 7) (x : (Nat → Nat) × (Nat → Nat)) (ps : Bool) {c : Nat} (hc : c < 128) (h0 : c ≠ 0) : Gw N x ps c = nsum (fun q => if (bitk c q && mc x q (c - 2 ^ q)) = true then Gw N x ps (c - 2 ^ q) else 0) N := by
  obtain ⟨k, hk⟩ : ∃ k, pcn c = k + 1 := ⟨pcn c - 1, by
    have : pcn c ≠ 0 := fun e => h0 (pc0 c hc e)
    omega⟩
  unfold Gw
  rw [hk]
  show nsum _ N = _
  refine nsum_congr N (fun q hq => ?_)
  by_cases cc : (bitk c q && mc x q (c - 2 ^ q)) = true
  · rw [if_pos cc, if_pos cc]
    have := (pc1 c hc q (by omega) (by rw [Bool.and_eq_true] at cc; exact cc.1)).2.1
    rw [show pcn (c - 2 ^ q) = k by omega]
  · rw [if_neg cc, if_neg cc]
theorem Gk_le {N : Nat} (hN : N ≤ 7) {x : (Nat → Nat) × (Nat → Nat)} {ps : Bool} : ∀ k c, Gk N x ps k c ≤ 7 ^ k
  | 0, c => by
    unfold Gk
    split <;> omega
  | k + 1, c => by
    have h := nsum_le (f := fun q => if (bitk c q && mc x q (c - 2 ^ q)) = true then Gk N x ps k (c - 2 ^ q) else 0) (m := 7 ^ k) N (fun q hq => by
      split
      · exact Gk_le hN k _
      · exact Nat.zero_le _)
    have h2 : N * 7 ^ k ≤ 7 * 7 ^ k := Nat.mul_le_mul_right _ hN
    rw [Nat.pow_succ, Nat.mul_comm (7 ^ k) 7]
    exact Nat.le_trans h h2
theorem Gw_le {N : Nat} (hN : N ≤ 7) {x : (Nat → Nat) × (Nat → Nat)} {ps : Bool} (c : Nat) : Gw N x ps c ≤ 1000000 := by
  have h1 : Gw N x ps c ≤ 7 ^ pcn c := Gk_le hN (pcn c) c
  have h2 : 7 ^ pcn c ≤ 7 ^ 7 := Nat.pow_le_pow_right (by omega) (pcn_le c)
  have h3 : 7 ^ 7 = 823543 := rfl
  omega
/-- (c, q) has had its turn -/
def prc (come p c q : Nat) : Bool := Nat.blt c come || (Nat.beq c come && Nat.blt q p)
def wtJ (N : Nat) (x : (Nat → Nat) × (Nat → Nat)) (ps : Bool) (come p : Nat) (w : Nat → Nat) : Prop := (∀ c, c < 2 ^ N → w c = if c = 0 then (if ps = true then 1 else 0) else nsum (fun q => if (bitk c q && mc x q (c - 2 ^ q) && prc come p (c - 2 ^ q) q) = true then Gw N x ps (c - 2 ^ q) else 0) N) ∧ ∀ c, 2 ^ N ≤ c → w c = 0
theorem prc_lt {come p c q : Nat} (h : c < come) : prc come p c q = true := by
  unfold prc
  rw [show Nat.blt c come = true from Nat.blt_eq.mpr h]
  rfl
theorem wtJ_at {N : Nat} (hN : N ≤ 7) {x : (Nat → Nat) × (Nat → Nat)} {ps : Bool} {come p : Nat} {w : Nat → Nat} (h : wtJ N x ps come p w) {c : Nat} (hc : c < 2 ^ N) (hle : c ≤ come) : w c = Gw N x ps c := by
  have t7 := two7 hN
  rw [h.1 c hc]
  split
  · next e =>
    subst e
    rfl
  · next e =>
    rw [Gw_s hN x ps (by omega) e]
    refine nsum_congr N (fun q hq => ?_)
    by_cases cc : (bitk c q && mc x q (c - 2 ^ q)) = true
    · have b := (pc1 c (by omega) q (by omega) (by rw [Bool.and_eq_true] at cc; exact cc.1)).1
      have : 0 < 2 ^ q := Nat.pow_pos (by omega)
      rw [cc, prc_lt (by omega)]
      rfl
    · rw [if_neg cc, if_neg (fun e => cc (by rw [Bool.and_eq_true] at e; exact e.1))]
theorem wtJ_i1 {N : Nat} (hN : N ≤ 7) {x : (Nat → Nat) × (Nat → Nat)} {ps : Bool} : ∀ come p w, wtJ N x ps come p w → w come ≤ 1000000000 := by
  intro come p w h
  by_cases c : come < 2 ^ N
  · rw [wtJ_at hN h c (Nat.le_refl _)]
    have := Gw_le hN (x := x) (ps := ps) come
    omega
  · rw [h.2 come (by omega)]
    omega
/-- what changes when (come, p) has its turn -/
theorem prc_s {come p c q : Nat} (h : ¬ (c = come ∧ q = p)) : prc come (p + 1) c q = prc come p c q := by
  unfold prc
  by_cases e : c = come
  · have hq : q ≠ p := fun k => h ⟨e, k⟩
    have : Nat.blt q (p + 1) = Nat.blt q p := by
      by_cases k : q < p
      · rw [show Nat.blt q p = true from Nat.blt_eq.mpr k, show Nat.blt q (p + 1) = true from Nat.blt_eq.mpr (by omega)]
      · cases e1 : Nat.blt q (p + 1) with
        | true =>
          have := Nat.blt_eq.mp e1
          omega
        | false =>
          cases e2 : Nat.blt q p with
          | true =>
            have := Nat.blt_eq.mp e2
            omega
          | false => rfl
    rw [this]
  · have : Nat.beq c come = false := by
      cases e1 : Nat.beq c come with
      | true => exact absurd (Nat.eq_of_beq_eq_true e1) e
      | false => rfl
    rw [this]
    rfl
theorem prc_no (come p : Nat) : prc come p come p = false := by
  unfold prc
  have h1 : Nat.blt come come = false := by
    cases e : Nat.blt come come with
    | true =>
      have := Nat.blt_eq.mp e
      omega
    | false => rfl
  have h2 : Nat.blt p p = false := by
    cases e : Nat.blt p p with
    | true =>
      have := Nat.blt_eq.mp e
      omega
    | false => rfl
  rw [h1, h2]
  cases Nat.beq come come <;> rfl
theorem prc_yes (come p : Nat) : prc come (p + 1) come p = true := by
  unfold prc
  rw [show Nat.beq come come = true from Nat.beq_refl come, show Nat.blt p (p + 1) = true from Nat.blt_eq.mpr (by omega)]
  cases Nat.blt come come <;> rfl
theorem wtJ_i2 {N : Nat} (hN : N ≤ 7) {x : (Nat → Nat) × (Nat → Nat)} {ps : Bool} : ∀ come p w, come < 2 ^ N → p < N → wtJ N x ps come p w → 0 < w come → mc x p come = true → wtJ N x ps come (p + 1) (updw w (come ||| 2 ^ p) (w (come ||| 2 ^ p) + w come)) := by
  intro come p w hcome hp h hw hm
  have t7 := two7 hN
  have o3 := or3 N (by omega) come (by omega) p hp hcome
  have o2 := ((or2 come (by omega) p (by omega)).2 (mc_bit hm)).1
  have hb := bor1 come (by omega) p (by omega)
  have op : 0 < 2 ^ p := Nat.pow_pos (by omega)
  refine ⟨fun c hc => ?_, fun c hc => ?_⟩
  · unfold updw
    by_cases e : c = come ||| 2 ^ p
    · rw [if_pos e, if_neg (by omega), h.1 _ o3, if_neg (by omega), wtJ_at hN h hcome (Nat.le_refl _)]
      have key := nsum_one (p := p) (f := fun q => if (bitk c q && mc x q (c - 2 ^ q) && prc come (p + 1) (c - 2 ^ q) q) = true then Gw N x ps (c - 2 ^ q) else 0) (f' := fun q => if (bitk c q && mc x q (c - 2 ^ q) && prc come p (c - 2 ^ q) q) = true then Gw N x ps (c - 2 ^ q) else 0) N hp (fun q hq hqp => by
        rw [prc_s (fun k => hqp k.2)])
      have ec : c - 2 ^ p = come := by omega
      have h1 : (bitk c p && mc x p (c - 2 ^ p) && prc come p (c - 2 ^ p) p) = false := by
        rw [ec, prc_no]
        simp
      have h2 : (bitk c p && mc x p (c - 2 ^ p) && prc come (p + 1) (c - 2 ^ p) p) = true := by
        rw [ec, prc_yes, hm, e, hb]
        rfl
      rw [h1, h2, if_neg (by decide), if_pos rfl, ec] at key
      rw [← e]
      omega
    · rw [if_neg e, h.1 c hc]
      split
      · rfl
      · refine nsum_congr N (fun q hq => ?_)
        by_cases b : bitk c q = true
        · have b2 := pc1 c (by omega) q (by omega) b
          rw [prc_s (fun k => e (by
            obtain ⟨k1, k2⟩ := k
            subst k2
            rw [← k1]
            exact b2.2.2.2.symm))]
        · have : bitk c q = false := by
            cases e2 : bitk c q with
            | true => exact absurd e2 b
            | false => rfl
          rw [this]
          rfl
  · unfold updw
    rw [if_neg (by omega)]
    exact h.2 c hc
theorem wtJ_i3 {N : Nat} (hN : N ≤ 7) {x : (Nat → Nat) × (Nat → Nat)} {ps : Bool} : ∀ come p w, come < 2 ^ N → p < N → wtJ N x ps come p w → ¬ (0 < w come ∧ mc x p come = true) → wtJ N x ps come (p + 1) w := by
  intro come p w hcome hp h hn
  have t7 := two7 hN
  refine ⟨fun c hc => ?_, h.2⟩
  rw [h.1 c hc]
  split
  · rfl
  · refine nsum_congr N (fun q hq => ?_)
    by_cases k : c - 2 ^ q = come ∧ q = p
    · obtain ⟨k1, k2⟩ := k
      subst k2
      rw [k1, prc_no, prc_yes]
      by_cases m : mc x q come = true
      · have : Gw N x ps come = 0 := by
          rw [← wtJ_at hN h hcome (Nat.le_refl _)]
          rcases Nat.eq_zero_or_pos (w come) with z | z
          · exact z
          · exact absurd ⟨z, m⟩ hn
        rw [this]
        split <;> split <;> rfl
      · have m : mc x q come = false := by
          cases e : mc x q come with
          | true => exact absurd e m
          | false => rfl
        rw [m]
        simp
    · rw [prc_s k]
theorem wtJ_i4 {N : Nat} (hN : N ≤ 7) {x : (Nat → Nat) × (Nat → Nat)} {ps : Bool} : ∀ come w, come < 2 ^ N → wtJ N x ps come N w → wtJ N x ps (come + 1) 0 w := by
  intro come w hcome h
  refine ⟨fun c hc => ?_, h.2⟩
  rw [h.1 c hc]
  split
  · rfl
  · refine nsum_congr N (fun q hq => ?_)
    have : prc come N (c - 2 ^ q) q = prc (come + 1) 0 (c - 2 ^ q) q := by
      have hz : Nat.blt q 0 = false := rfl
      have hn : Nat.blt q N = true := Nat.blt_eq.mpr hq
      unfold prc
      rw [hz, hn]
      generalize c - 2 ^ q = y
      cases e1 : Nat.blt y (come + 1) with
      | true =>
        have := Nat.blt_eq.mp e1
        by_cases e2 : y = come
        · subst e2
          rw [show Nat.beq y y = true from Nat.beq_refl y]
          cases Nat.blt y y <;> rfl
        · rw [show Nat.blt y come = true from Nat.blt_eq.mpr (by omega)]
          rfl
      | false =>
        have h1 : ¬ y < come + 1 := fun q => by
          rw [Nat.blt_eq.mpr q] at e1
          exact absurd e1 (by decide)
        have h2 : Nat.blt y come = false := by
          cases e : Nat.blt y come with
          | true =>
            have := Nat.blt_eq.mp e
            omega
          | false => rfl
        have h3 : Nat.beq y come = false := by
          cases e : Nat.beq y come with
          | true =>
            have := Nat.eq_of_beq_eq_true e
            omega
          | false => rfl
        rw [h2, h3]
        cases Nat.beq y (come + 1) <;> rfl
    rw [this]
theorem wtJ_0 {N : Nat} (hN : N ≤ 7) {x : (Nat → Nat) × (Nat → Nat)} {ps : Bool} : wtJ N x ps 0 0 (fun c => if c = 0 ∧ ps = true then 1 else 0) := by
  have t7 := two7 hN
  refine ⟨fun c hc => ?_, fun c hc => ?_⟩
  · dsimp only
    by_cases e : c = 0
    · rw [if_pos e]
      by_cases k : ps = true
      · rw [if_pos ⟨e, k⟩, if_pos k]
      · rw [if_neg (fun q => k q.2), if_neg k]
    · rw [if_neg (fun q => e q.1), if_neg e]
      have : ∀ k, nsum (fun q => if (bitk c q && mc x q (c - 2 ^ q) && prc 0 0 (c - 2 ^ q) q) = true then Gw N x ps (c - 2 ^ q) else 0) k = 0 := by
        intro k
        induction k with
        | zero => rfl
        | succ k ih =>
          unfold nsum
          rw [ih]
          have : prc 0 0 (c - 2 ^ k) k = false := by
            unfold prc
            have h1 : Nat.blt (c - 2 ^ k) 0 = false := rfl
            have h2 : Nat.blt k 0 = false := rfl
            rw [h1, h2]
            cases Nat.beq (c - 2 ^ k) 0 <;> rfl
          rw [this, Bool.and_false]
          rfl
      exact (this N).symm
  · dsimp only
    rw [if_neg (fun q => by omega)]
end
section
/-! Orders: found, asked; came, sure: the class -/
theorem pc6 : ∀ c : Nat, c < 128 → ∀ p : Nat, p < 7 → bitk c p = false → pcn c < 7 := by decide +kernel
theorem Fk_le {N : Nat} (hN : N ≤ 7) {x : (Nat → Nat) × (Nat → Nat)} : ∀ k c, Fk N x k c ≤ 7 ^ k
  | 0, c => by
    unfold Fk
    omega
  | k + 1, c => by
    have h := nsum_le (f := fun p => if mc x p c = true then Fk N x k (c ||| 2 ^ p) else 0) (m := 7 ^ k) N (fun q hq => by

      split
      · exact Fk_le hN k _
      · exact Nat.zero_le _)
    have h2 : N * 7 ^ k ≤ 7 * 7 ^ k := Nat.mul_le_mul_right _ hN
    rw [Nat.pow_succ, Nat.mul_comm (7 ^ k) 7]
    exact Nat.le_trans h h2
theorem Fw_le {N : Nat} (hN : N ≤ 7) {x : (Nat → Nat) × (Nat → Nat)} (c : Nat) : Fw N x c ≤ 1000000 := by
  have h1 : Fw N x c ≤ 7 ^ (N - pcn c) := Fk_le hN _ c
  have h2 : 7 ^ (N - pcn c) ≤ 7 ^ 7 := Nat.pow_le_pow_right (by omega) (by omega)
  have h3 : 7 ^ 7 = 823543 := rfl
  omega
/-- as which one can have come -/
def plf (N : Nat) (x : (Nat → Nat) × (Nat → Nat)) (ps : Bool) (p : Nat) : Nat → Nat
  | 0 => 0
  | c + 1 => if 0 < Gw N x ps c ∧ mc x p c = true ∧ 0 < Fw N x (c ||| 2 ^ p) then plf N x ps p c ||| 2 ^ pcn c else plf N x ps p c
/-- whether a can have come ahead of b -/
def cbf (N : Nat) (x : (Nat → Nat) × (Nat → Nat)) (ps : Bool) (a b : Nat) : Nat → Nat → Bool
  | 0, _ => false
  | k + 1, c => if (bitk c a = true ∧ bitk c b = false) ∧ 0 < Gw N x ps c ∧ 0 < Fw N x c then true else cbf N x ps a b k (c + 1)
theorem plf_lt {N : Nat} {x : (Nat → Nat) × (Nat → Nat)} {ps : Bool} {p : Nat} (hp : p < 7) : ∀ k, k ≤ 128 → plf N x ps p k < 128
  | 0, _ => by unfold plf; omega
  | c + 1, h => by
    have ih := plf_lt (N := N) (x := x) (ps := ps) hp c (by omega)
    unfold plf
    split
    · next q => exact (or2 _ ih _ (pc6 c (by omega) p hp (mc_bit q.2.1))).1
    · exact ih
def hdA (A : aN) : ((Nat → Nat) × (Nat → Nat)) × Bool := hdf (cnt A) (A 3 1) (A 5) (A 6) (A 7) (A 0 1)
def KO (A : aN) (σ : Nat → Nat → Int32) : Prop := σ 39 4 = Int32.ofInt (cnt A : Int) ∧ σ 39 5 = Int32.ofInt ((2 ^ cnt A - 1 : Nat) : Int) ∧ hdS (cnt A) (hdA A).1 σ ∧ (∀ c, c < 2 ^ cnt A → σ 40 c = Int32.ofInt (Gw (cnt A) (hdA A).1 (hdA A).2 c : Int)) ∧ ∀ c, c < 2 ^ cnt A → σ 41 c = Int32.ofInt (Fw (cnt A) (hdA A).1 c : Int)
def cbA (A : aN) (a b : Nat) : Bool := cbf (cnt A) (hdA A).1 (hdA A).2 a b (2 ^ cnt A) 0
def spr (A : aN) (a b : Nat) : Int := if cbA A a b = cbA A b a then 0 else 1
def f_came (A : aN) (z : Int) : Int := if z ≠ -1 ∧ ¬ (0 ≤ z ∧ z < cnt A) then -2 else if z = -1 then (Gw (cnt A) (hdA A).1 (hdA A).2 (2 ^ cnt A - 1) : Int) else (plf (cnt A) (hdA A).1 (hdA A).2 z.toNat (2 ^ cnt A) : Int)
def f_sure (A : aN) : Int := sumr (fun a => sumr (spr A a) (a + 1) (cnt A - (a + 1))) 0 (cnt A)
section CM
variable {n w3 : Nat} {g : Nat → Nat × Nat} {σ : Nat → Nat → Int32} {τ : Nat → Nat → Int64} {r1 r2 : Nat} {A : aN} {B : aZ}
set_option maxRecDepth 100000 in
theorem s_find1 (d : Nat) (Q : am_Q) {N : Nat} {x3 : Int32} {x5 : Value} (hN : N ≤ 7) : ∀ (k p : Nat) (σ : Nat → Nat → Int32), p + k = N → σ 39 4 = Int32.ofInt (N : Int) → σ 39 5 = Int32.ofInt ((2 ^ N - 1 : Nat) : Int) → (∀ q, q < p → σ 42 q = Int32.ofInt 0 ∧ σ 43 q = Int32.ofInt ((2 ^ N - 1 : Nat) : Int)) →
    (∀ σ' : Nat → Nat → Int32, (∀ c, c ≠ 42 → c ≠ 43 → σ' c = σ c) → (∀ q, q < N → σ' 42 q = Int32.ofInt 0 ∧ σ' 43 q = Int32.ofInt ((2 ^ N - 1 : Nat) : Int)) → am_wp (am_d d) T_X3_find Q (60, [.ref 39, .ref 35, .int (Int32.ofInt (N : Int)), .int x3, .int (Int32.ofInt 1), .int (Int32.ofInt 0)], [], 0, 0) (lo_M n w3 g σ' τ r1 r2)) →
    am_wp (am_d d) T_X3_find Q (20, [.ref 39, .ref 35, .int (Int32.ofInt (N : Int)), .int x3, .int (Int32.ofInt (p : Int)), x5], [], 0, 0) (lo_M n w3 g σ τ r1 r2) := by
  intro k
  induction k with
  | zero =>
    intro p σ hp hn ha hs h
    refine am_wp_go (am_d_cm _) (fun pc => Nat.beq pc 20 || Nat.beq pc 60) 60 ?_
    refine And.intro (fun c1 => ?_) (fun c1 => absurd ?_ c1)
    · exact h σ (fun _ _ _ => rfl) (fun q hq => hs q (by omega))
    · show σ 39 4 ≤ _
      rw [hn, zle (by unfold zr; omega) (by unfold zr; omega)]
      omega
  | succ k ih =>
    intro p σ hp hn ha hs h
    refine am_wp_go (am_d_cm _) (fun pc => Nat.beq pc 20 || Nat.beq pc 60) 60 ?_
    refine And.intro (fun c1 => ?_) (fun c1 => ?_)
    · have c1 : σ 39 4 ≤ Int32.ofInt (p : Int) := c1
      rw [hn, zle (by unfold zr; omega) (by unfold zr; omega)] at c1
      omega
    · refine ixi p 7 (by omega) ?_
      refine ixi p 7 (by omega) ?_
      show am_wp _ _ _ (20, [.ref 39, .ref 35, .int (Int32.ofInt (N : Int)), .int x3, .int (Int32.ofInt (p : Int) + Int32.ofInt 1), x5], [], 0, 0) (lo_M n w3 g (am_u (am_u σ 42 p (Int32.ofInt 0)) 43 p (σ 39 5)) τ r1 r2)
      rw [zadd, show ((p : Int) + 1) = ((p + 1 : Nat) : Int) by omega]
      refine ih (p + 1) _ (by omega) hn ha (fun q hq => ?_) (fun σ' k1 k2 => h σ' (fun c e1 e2 => by rw [k1 c e1 e2, am_u_ne e2, am_u_ne e1]) k2)
      rw [am_u_at, am_u_ne (by decide), am_u_at]
      by_cases e : q = p
      · rw [if_pos e, if_pos e]
        exact ⟨rfl, ha⟩
      · rw [if_neg e, if_neg e]
        exact hs q (by omega)
set_option maxHeartbeats 1000000 in
set_option maxRecDepth 100000 in
theorem s_find2 (d : Nat) (Q : am_Q) {N lw S : Nat} {kd pe ot : Nat → Nat} (hN : N ≤ 7) (hlw : lw ≤ 1) (hS : S ≤ 8) (hf : ∀ f, kd f ≤ 1 ∧ pe f < 7 ∧ ot f < 7) : ∀ (k f : Nat) (σ : Nat → Nat → Int32) (x4 : Int32), f + k = S → σ 39 4 = Int32.ofInt (N : Int) → σ 39 5 = Int32.ofInt ((2 ^ N - 1 : Nat) : Int) → σ 35 3 = Int32.ofInt (S : Int) → (∀ f, f < S → σ 36 f = Int32.ofInt (kd f : Int) ∧ σ 37 f = Int32.ofInt (pe f : Int) ∧ σ 38 f = Int32.ofInt (ot f : Int)) → hdS N (hdf N lw kd pe ot f).1 σ → x4 = (if (hdf N lw kd pe ot f).2 = true then 1 else 0) →
    (∀ σ' : Nat → Nat → Int32, (∀ c, c ≠ 40 → c ≠ 41 → c ≠ 42 → c ≠ 43 → σ' c = σ c) → hdS N (hdf N lw kd pe ot S).1 σ' → (∀ c, c < 2 ^ N → σ' 40 c = Int32.ofInt (Gw N (hdf N lw kd pe ot S).1 (hdf N lw kd pe ot S).2 c : Int)) → (∀ c, c < 2 ^ N → σ' 41 c = Int32.ofInt (Fw N (hdf N lw kd pe ot S).1 c : Int)) → Q none (lo_M n w3 g σ' τ r1 r2)) →
    am_wp (am_d (d + 3)) T_X3_find Q (60, [.ref 39, .ref 35, .int (Int32.ofInt (N : Int)), .int (Int32.ofInt (lw : Int)), .int x4, .int (Int32.ofInt (f : Int))], [], 0, 0) (lo_M n w3 g σ τ r1 r2) := by
  intro k
  induction k with
  | zero =>
    intro f σ x4 hfk hn ha h5 h6 hs hx4 h
    have hfe : f = S := by omega
    subst hfe
    refine am_wp_go (am_d_cm _) (fun pc => Nat.beq pc 60) 60 ?_
    refine And.intro (fun c1 => ?_) (fun c1 => absurd ?_ c1)
    · show am_d (d + 3) 21 [.ref 39, .int x4] 0 0 _ _
      rw [hx4]
      refine s_waysTo d _ hN (hdf_7 hN f) (wtJ_i1 hN) (wtJ_i2 hN) (wtJ_i3 hN) (wtJ_i4 hN) (wtJ_0 hN) hs hn ha (fun w' σ' k1 k2 k3 => ?_)
      have hs' : hdS N (hdf N lw kd pe ot f).1 σ' := by
        unfold hdS
        rw [k1 42 (by decide), k1 43 (by decide)]
        exact hs
      refine s_waysOn d _ hN (hdf_7 hN f) (onF_Fw hN _) hs' (by rw [k1 39 (by decide)]; exact hn) (by rw [k1 39 (by decide)]; exact ha) (fun σ2 m1 m2 => ?_)
      refine h σ2 (fun c e1 e2 e3 e4 => by rw [m1 c e2, k1 c e1]) ?_ (fun c hc => ?_) m2
      · unfold hdS
        rw [m1 42 (by decide), m1 43 (by decide)]
        exact hs'
      · rw [m1 40 (by decide), k2 c hc, wtJ_at hN k3 hc (by omega)]
    · show σ 35 3 ≤ _
      rw [h5, zle (by unfold zr; omega) (by unfold zr; omega)]
      omega
  | succ k ih =>
    intro f σ x4 hfk hn ha h5 h6 hs hx4 h
    obtain ⟨y1, y2, y3⟩ := h6 f (by omega)
    obtain ⟨v1, v2, v3⟩ := hf f
    have next : ∀ (σ' : Nat → Nat → Int32) (v : Int32), (∀ c, c ≠ 42 → c ≠ 43 → σ' c = σ c) → hdS N (hd1 N lw (kd f) (pe f) (ot f) (hdf N lw kd pe ot f).1) σ' → v = (if (hd2 N (kd f) (pe f) (ot f) && (hdf N lw kd pe ot f).2) = true then 1 else 0) → am_wp (am_d (d + 3)) T_X3_find Q (60, [.ref 39, .ref 35, .int (Int32.ofInt (N : Int)), .int (Int32.ofInt (lw : Int)), .int v, .int (Int32.ofInt (f : Int) + Int32.ofInt 1)], [], 0, 0) (lo_M n w3 g σ' τ r1 r2) := by
      intro σ' v k1 k2 hv
      rw [zadd, show ((f : Int) + 1) = ((f + 1 : Nat) : Int) by omega]
      refine ih (f + 1) σ' v (by omega) (by rw [k1 39 (by decide) (by decide)]; exact hn) (by rw [k1 39 (by decide) (by decide)]; exact ha) (by rw [k1 35 (by decide) (by decide)]; exact h5) (by rw [k1 36 (by decide) (by decide), k1 37 (by decide) (by decide), k1 38 (by decide) (by decide)]; exact h6) k2 hv (fun σ2 m1 m2 m3 m4 => h σ2 (fun c e1 e2 e3 e4 => by rw [m1 c e1 e2 e3 e4, k1 c e3 e4]) m2 m3 m4)
    refine am_wp_go (am_d_cm _) (fun pc => Nat.beq pc 60) 60 ?_
    refine And.intro (fun c1 => ?_) (fun c1 => ?_)
    · have c1 : σ 35 3 ≤ Int32.ofInt (f : Int) := c1
      rw [h5, zle (by unfold zr; omega) (by unfold zr; omega)] at c1
      omega
    · refine ixi f 8 (by omega) ?_
      refine ixi f 8 (by omega) ?_
      refine ixi f 8 (by omega) ?_
      show am_d (d + 3) 19 [.ref 39, .int (σ 36 f), .int (σ 37 f), .int (σ 38 f), .int (Int32.ofInt (lw : Int))] 0 0 _ _
      rw [y1, y2, y3]
      refine s_heed (d + 1) _ hN hlw v1 v2 v3 (hdf_7 hN f) hn hs (fun σ' k1 k2 => ?_)
      by_cases c3 : hd2 N (kd f) (pe f) (ot f) = true
      · rw [if_pos c3]
        refine And.intro (fun q => absurd q (by decide)) (fun _ => ?_)
        by_cases c4 : (hdf N lw kd pe ot f).2 = true
        · rw [if_pos c4] at hx4
          subst hx4
          refine And.intro (fun q => absurd q (by decide)) (fun _ => ?_)
          exact next σ' 1 k1 k2 (by rw [c3, c4]; rfl)
        · rw [if_neg c4] at hx4
          subst hx4
          refine And.intro (fun _ => ?_) (fun q => absurd rfl q)
          exact next σ' 0 k1 k2 (by rw [if_neg (fun q => c4 (by rw [Bool.and_eq_true] at q; exact q.2))])
      · rw [if_neg c3]
        refine And.intro (fun _ => ?_) (fun q => absurd rfl q)
        exact next σ' 0 k1 k2 (by rw [if_neg (fun q => c3 (by rw [Bool.and_eq_true] at q; exact q.1))])
set_option maxRecDepth 100000 in
theorem s_find (d : Nat) (Q : am_Q) (hx : IX A B σ) (hwf : WF A B) (h : ∀ σ' : Nat → Nat → Int32, (∀ c, ¬ (39 ≤ c ∧ c ≤ 43) → σ' c = σ c) → KO A σ' → Q none (lo_M n w3 g σ' τ r1 r2)) : am_d (d + 4) 18 [.ref 39, .ref 35, .int (Int32.ofInt (cnt A : Int)), .int (Int32.ofInt (A 3 1 : Int))] 0 0 (lo_M n w3 g σ τ r1 r2) Q := by
  have hc := cnt_le A
  obtain ⟨f1, f2⟩ := hx.2.2.2.2.2.1
  have hall := all_eq (cnt A) (by omega)
  have go := s_find1 (n := n) (w3 := w3) (g := g) (τ := τ) (r1 := r1) (r2 := r2) (d + 3) Q (x3 := Int32.ofInt (A 3 1 : Int)) (x5 := .null) hc (cnt A) 0 (am_u (am_u σ 39 4 (Int32.ofInt (cnt A : Int))) 39 5 ((Int32.ofInt 1 <<< (Int32.ofInt (cnt A : Int) &&& 31)) - Int32.ofInt 1)) (by omega) (by rw [am_u_at, if_neg (by decide), am_u_at, if_pos rfl]) (by rw [am_u_at, if_pos rfl]; exact hall) (fun q hq => by omega) (fun σ' k1 k2 => by
    have e39 : σ' 39 = am_u (am_u σ 39 4 (Int32.ofInt (cnt A : Int))) 39 5 ((Int32.ofInt 1 <<< (Int32.ofInt (cnt A : Int) &&& 31)) - Int32.ofInt 1) 39 := k1 39 (by decide) (by decide)
    have eo : ∀ c, c ≠ 39 → c ≠ 42 → c ≠ 43 → σ' c = σ c := fun c e1 e2 e3 => by rw [k1 c e2 e3, am_u_ne e1, am_u_ne e1]
    refine s_find2 d Q (lw := A 3 1) (S := A 0 1) (kd := A 5) (pe := A 6) (ot := A 7) hc hwf.2.2.2.1.2.1 hwf.2.2.2.2.2.2.2.1 hwf.2.2.2.2.2.2.2.2.1 (A 0 1) 0 σ' _ (by omega) (by rw [e39, am_u_at, if_neg (by decide), am_u_at, if_pos rfl]) (by rw [e39, am_u_at, if_pos rfl]; exact hall) (by rw [eo 35 (by decide) (by decide) (by decide)]; exact f1) (by rw [eo 36 (by decide) (by decide) (by decide), eo 37 (by decide) (by decide) (by decide), eo 38 (by decide) (by decide) (by decide)]; exact f2) (fun q hq => k2 q hq) rfl (fun σ2 m1 m2 m3 m4 => ?_)
    refine h σ2 (fun c e => by rw [m1 c (by omega) (by omega) (by omega) (by omega), eo c (by omega) (by omega) (by omega)]) ⟨?_, ?_, m2, m3, m4⟩
    · rw [m1 39 (by decide) (by decide) (by decide) (by decide), e39, am_u_at, if_neg (by decide), am_u_at, if_pos rfl]
    · rw [m1 39 (by decide) (by decide) (by decide) (by decide), e39, am_u_at, if_pos rfl]
      exact hall)
  refine am_goT T_X3_find [.ref 39, .ref 35, .int (Int32.ofInt (cnt A : Int)), .int (Int32.ofInt (A 3 1 : Int)), .null, .null] rfl rfl (fun pc => Nat.beq pc 20) 60 ?_
  exact go
set_option maxRecDepth 100000 in
theorem s_findOrders (d : Nat) (Q : am_Q) (hx : IX A B σ) (hwf : WF A B) (hfl : σ 4 16 = Int32.ofInt 0 ∨ σ 4 16 = Int32.ofInt 1 ∧ KO A σ) (h : ∀ σ' : Nat → Nat → Int32, (∀ c, c ≠ 4 → ¬ (39 ≤ c ∧ c ≤ 43) → σ' c = σ c) → (∀ i, i ≠ 16 → σ' 4 i = σ 4 i) → σ' 4 16 = Int32.ofInt 1 → KO A σ' → Q none (lo_M n w3 g σ' τ r1 r2)) : am_d (d + 5) 104 [.ref 4] 0 0 (lo_M n w3 g σ τ r1 r2) Q := by
  refine am_goT T_X9_findOrders [.ref 4] rfl rfl (fun _ => false) 60 ?_
  rcases hfl with hfl | ⟨hfl, hK⟩
  · refine And.intro (fun _ => ?_) (fun c1 => absurd (show σ 4 16 = 0 from hfl) c1)
    refine ixi 1 6 (by omega) ?_
    show am_d (d + 4) 18 [.ref 39, .ref 35, .int (σ 5 4), .int (σ 12 1)] 0 0 _ _
    rw [hx.1.2.2.1, hx.2.2.1 1 (by omega)]
    refine s_find d _ hx hwf (fun σ' k1 k2 => ?_)
    refine And.intro (Or.inr rfl) ?_
    refine h (am_u σ' 4 16 (Int32.ofInt 1)) (fun c e1 e2 => by rw [am_u_ne e1, k1 c e2]) (fun i hi => by rw [am_u_at, if_neg hi, k1 4 (by omega)]) (by rw [am_u_at, if_pos rfl]) k2
  · refine And.intro (fun c1 => absurd (show σ 4 16 = 0 from c1) (by rw [hfl]; decide)) (fun _ => ?_)
    exact h σ (fun _ _ _ => rfl) (fun _ _ => rfl) hfl hK
set_option maxHeartbeats 1000000 in
set_option maxRecDepth 100000 in
theorem s_places (d : Nat) (Q : am_Q) {N p : Nat} {x : (Nat → Nat) × (Nat → Nat)} {ps : Bool} (hN : N ≤ 7) (hp : p < N) (h7 : m7 N x) (hs : hdS N x σ) (ha : σ 39 5 = Int32.ofInt ((2 ^ N - 1 : Nat) : Int)) (hG : ∀ c, c < 2 ^ N → σ 40 c = Int32.ofInt (Gw N x ps c : Int)) (hF : ∀ c, c < 2 ^ N → σ 41 c = Int32.ofInt (Fw N x c : Int)) (h : Q (some (.int (Int32.ofInt (plf N x ps p (2 ^ N) : Int)))) (lo_M n w3 g σ τ r1 r2)) : ∀ (k come : Nat), come + k = 2 ^ N →
    am_wp (am_d (d + 2)) T_X3_placesOf Q (4, [.ref 39, .int (Int32.ofInt (p : Int)), .int (Int32.ofInt (plf N x ps p come : Int)), .int (Int32.ofInt (come : Int))], [], 0, 0) (lo_M n w3 g σ τ r1 r2) := by
  have t7 := two7 hN
  intro k
  induction k with
  | zero =>
    intro come hc
    have hce : come = 2 ^ N := by omega
    subst hce
    refine am_wp_go (am_d_cm _) (fun pc => Nat.beq pc 4) 60 ?_
    refine And.intro (fun c1 => ?_) (fun c1 => absurd ?_ c1)
    · exact h
    · show σ 39 5 < _
      rw [ha, zlt (by unfold zr; omega) (by unfold zr; omega)]
      omega
  | succ k ih =>
    intro come hc
    have ih := ih (come + 1) (by omega)
    rw [show ((come + 1 : Nat) : Int) = (come : Int) + 1 by omega, ← zadd (come : Int)] at ih
    have gl := Gw_le hN (x := x) (ps := ps) come
    have pl := plf_lt (N := N) (x := x) (ps := ps) (show p < 7 by omega) come (by omega)
    have skip : ¬ (0 < Gw N x ps come ∧ mc x p come = true ∧ 0 < Fw N x (come ||| 2 ^ p)) → am_wp (am_d (d + 2)) T_X3_placesOf Q (4, [.ref 39, .int (Int32.ofInt (p : Int)), .int (Int32.ofInt (plf N x ps p come : Int)), .int (Int32.ofInt (come : Int) + Int32.ofInt 1)], [], 0, 0) (lo_M n w3 g σ τ r1 r2) := by
      intro e
      have ih := ih
      rw [show plf N x ps p (come + 1) = plf N x ps p come from if_neg e] at ih
      exact ih
    refine am_wp_go (am_d_cm _) (fun pc => Nat.beq pc 4) 60 ?_
    refine And.intro (fun c1 => ?_) (fun c1 => ?_)
    · have c1 : σ 39 5 < Int32.ofInt (come : Int) := c1
      rw [ha, zlt (by unfold zr; omega) (by unfold zr; omega)] at c1
      omega
    · refine ixi come 128 (by omega) ?_
      refine And.intro (fun c2 => ?_) (fun c2 => ?_)
      · have c2 : σ 40 come ≤ 0 := c2
        rw [hG come (by omega), zle0 (by unfold zr; omega)] at c2
        exact skip (fun q => by omega)
      · have c2 : ¬ σ 40 come ≤ 0 := c2
        rw [hG come (by omega), zle0 (by unfold zr; omega)] at c2
        refine s_mayCome d _ hN hp (by omega) h7 hs ?_
        by_cases c3 : mc x p come = true
        · rw [if_pos c3]
          refine And.intro (fun q => absurd q (by decide)) (fun _ => ?_)
          have o3 := or3 N (by omega) come (by omega) p hp (by omega)
          have eo := (orv come (by omega) p (by omega)).1
          have fl := Fw_le hN (x := x) (come ||| 2 ^ p)
          refine ixi (come ||| 2 ^ p) 128 (by omega) ?_ eo
          refine And.intro (fun c4 => ?_) (fun c4 => ?_)
          · have c4 : σ 41 (come ||| 2 ^ p) ≤ 0 := c4
            rw [hF _ o3, zle0 (by unfold zr; omega)] at c4
            exact skip (fun q => by omega)
          · have c4 : ¬ σ 41 (come ||| 2 ^ p) ≤ 0 := c4
            rw [hF _ o3, zle0 (by unfold zr; omega)] at c4
            refine s_bitCount (d + 1) (show come < 128 by omega) _ _ ?_
            rw [show plf N x ps p (come + 1) = plf N x ps p come ||| 2 ^ pcn come from if_pos ⟨by omega, c3, by omega⟩, ← (orv _ pl (pcn come) (pc6 come (by omega) p (by omega) (mc_bit c3))).1] at ih
            exact ih
        · rw [if_neg c3]
          refine And.intro (fun _ => ?_) (fun q => absurd rfl q)
          exact skip (fun q => c3 q.2.1)
set_option maxHeartbeats 1000000 in
set_option maxRecDepth 100000 in
theorem s_cbf_loop (d : Nat) (Q : am_Q) {N a b : Nat} {x : (Nat → Nat) × (Nat → Nat)} {ps : Bool} (hN : N ≤ 7) (haN : a < N) (hbN : b < N) (ha : σ 39 5 = Int32.ofInt ((2 ^ N - 1 : Nat) : Int)) (hG : ∀ c, c < 2 ^ N → σ 40 c = Int32.ofInt (Gw N x ps c : Int)) (hF : ∀ c, c < 2 ^ N → σ 41 c = Int32.ofInt (Fw N x c : Int)) : ∀ (k come : Nat) (x4 : Value), come + k = 2 ^ N → Q (some (.int (if cbf N x ps a b k come = true then 1 else 0))) (lo_M n w3 g σ τ r1 r2) →
    am_wp (am_d d) T_X3_canBeFirst Q (2, [.ref 39, .int (Int32.ofInt (a : Int)), .int (Int32.ofInt (b : Int)), .int (Int32.ofInt (come : Int)), x4], [], 0, 0) (lo_M n w3 g σ τ r1 r2) := by
  have t7 := two7 hN
  intro k
  induction k with
  | zero =>
    intro come x4 hc h
    refine am_wp_go (am_d_cm _) (fun pc => Nat.beq pc 2) 60 ?_
    refine And.intro (fun c1 => ?_) (fun c1 => absurd ?_ c1)
    · exact And.intro (Or.inl rfl) h
    · show σ 39 5 < _
      rw [ha, zlt (by unfold zr; omega) (by unfold zr; omega)]
      omega
  | succ k ih =>
    intro come x4 hc h
    have gl := Gw_le hN (x := x) (ps := ps) come
    have fl := Fw_le hN (x := x) come
    have next : ∀ v : Value, ¬ ((bitk come a = true ∧ bitk come b = false) ∧ 0 < Gw N x ps come ∧ 0 < Fw N x come) → am_wp (am_d d) T_X3_canBeFirst Q (2, [.ref 39, .int (Int32.ofInt (a : Int)), .int (Int32.ofInt (b : Int)), .int (Int32.ofInt (come : Int) + Int32.ofInt 1), v], [], 0, 0) (lo_M n w3 g σ τ r1 r2) := by
      intro v e
      rw [zadd, show ((come : Int) + 1) = ((come + 1 : Nat) : Int) by omega]
      rw [show cbf N x ps a b (k + 1) come = cbf N x ps a b k (come + 1) from if_neg e] at h
      exact ih (come + 1) v (by omega) h
    refine am_wp_go (am_d_cm _) (fun pc => Nat.beq pc 2) 60 ?_
    refine And.intro (fun c1 => ?_) (fun c1 => ?_)
    · have c1 : σ 39 5 < Int32.ofInt (come : Int) := c1
      rw [ha, zlt (by unfold zr; omega) (by unfold zr; omega)] at c1
      omega
    · refine And.intro (fun c2 => ?_) (fun c2 => ?_)
      · have c2 : (Int32.ofInt (come : Int) >>> (Int32.ofInt (a : Int) &&& 31)) &&& Int32.ofInt 1 = Int32.ofInt 1 := c2
        rw [bitv7 come (by omega) a (by omega)] at c2
        have b1 : bitk come a = true := by
          cases e : bitk come a with
          | true => rfl
          | false =>
            rw [e] at c2
            exact absurd c2 (by decide)
        refine And.intro (fun c3 => ?_) (fun c3 => ?_)
        · have c3 : (Int32.ofInt (come : Int) >>> (Int32.ofInt (b : Int) &&& 31)) &&& Int32.ofInt 1 = 0 := c3
          rw [bitv7 come (by omega) b (by omega)] at c3
          have b2 : bitk come b = false := by
            cases e : bitk come b with
            | false => rfl
            | true =>
              rw [e] at c3
              exact absurd c3 (by decide)
          refine And.intro (fun q => absurd q (by decide)) (fun _ => ?_)
          refine ixi come 128 (by omega) ?_
          refine And.intro (fun c4 => ?_) (fun c4 => ?_)
          · have c4 : σ 40 come ≤ 0 := c4
            rw [hG come (by omega), zle0 (by unfold zr; omega)] at c4
            exact next _ (fun q => by omega)
          · have c4 : ¬ σ 40 come ≤ 0 := c4
            rw [hG come (by omega), zle0 (by unfold zr; omega)] at c4
            refine ixi come 128 (by omega) ?_
            refine And.intro (fun c5 => ?_) (fun c5 => ?_)
            · have c5 : σ 41 come ≤ 0 := c5
              rw [hF come (by omega), zle0 (by unfold zr; omega)] at c5
              exact next _ (fun q => by omega)
            · have c5 : ¬ σ 41 come ≤ 0 := c5
              rw [hF come (by omega), zle0 (by unfold zr; omega)] at c5
              rw [show cbf N x ps a b (k + 1) come = true from if_pos ⟨⟨b1, b2⟩, by omega, by omega⟩, if_pos rfl] at h
              exact And.intro (Or.inr rfl) h
        · have c3 : ¬ (Int32.ofInt (come : Int) >>> (Int32.ofInt (b : Int) &&& 31)) &&& Int32.ofInt 1 = 0 := c3
          rw [bitv7 come (by omega) b (by omega)] at c3
          refine And.intro (fun _ => ?_) (fun q => absurd rfl q)
          exact next _ (fun q => by
            rw [q.1.2] at c3
            exact absurd rfl c3)
      · have c2 : ¬ (Int32.ofInt (come : Int) >>> (Int32.ofInt (a : Int) &&& 31)) &&& Int32.ofInt 1 = Int32.ofInt 1 := c2
        rw [bitv7 come (by omega) a (by omega)] at c2
        refine And.intro (fun _ => ?_) (fun q => absurd rfl q)
        exact next _ (fun q => by
          rw [q.1.1] at c2
          exact absurd rfl c2)
set_option maxRecDepth 100000 in
theorem s_cbA (d : Nat) (Q : am_Q) {a b : Nat} (haN : a < cnt A) (hbN : b < cnt A) (hK : KO A σ) (h : Q (some (.int (if cbA A a b = true then 1 else 0))) (lo_M n w3 g σ τ r1 r2)) : am_d (d + 1) 26 [.ref 39, .int (Int32.ofInt (a : Int)), .int (Int32.ofInt (b : Int))] 0 0 (lo_M n w3 g σ τ r1 r2) Q := by
  obtain ⟨k1, k2, k3, k4, k5⟩ := hK
  refine am_goT T_X3_canBeFirst [.ref 39, .int (Int32.ofInt (a : Int)), .int (Int32.ofInt (b : Int)), .null, .null] rfl rfl (fun pc => Nat.beq pc 2) 60 ?_
  exact s_cbf_loop d Q (cnt_le A) haN hbN k2 k4 k5 (2 ^ cnt A) 0 .null (by omega) h
theorem spr01 (A : aN) (a b : Nat) : 0 ≤ spr A a b ∧ spr A a b ≤ 1 := by
  unfold spr
  split <;> omega
set_option maxHeartbeats 1000000 in
set_option maxRecDepth 100000 in
theorem s_sure_in (d : Nat) (Q : am_Q) {a : Nat} (hK : KO A σ) (ha : a < cnt A) : ∀ (k b : Nat) (acc : Int), b + k = cnt A → a < b → 0 ≤ acc → acc + k ≤ 1000 →
    (am_wp (am_d (d + 1)) T_X3_surePairs Q (4, [.ref 39, .int (Int32.ofInt (acc + sumr (spr A a) b k)), .int (Int32.ofInt ((a + 1 : Nat) : Int)), .int (Int32.ofInt (cnt A : Int))], [], 0, 0) (lo_M n w3 g σ τ r1 r2)) →
    am_wp (am_d (d + 1)) T_X3_surePairs Q (16, [.ref 39, .int (Int32.ofInt acc), .int (Int32.ofInt (a : Int)), .int (Int32.ofInt (b : Int))], [], 0, 0) (lo_M n w3 g σ τ r1 r2) := by
  have hc := cnt_le A
  intro k
  induction k with
  | zero =>
    intro b acc hb hab h0 hacc h
    have hbe : b = cnt A := by omega
    subst hbe
    refine am_wp_go (am_d_cm _) (fun pc => Nat.beq pc 4 || Nat.beq pc 16) 60 ?_
    refine And.intro (fun c1 => ?_) (fun c1 => absurd ?_ c1)
    · unfold sumr at h
      rw [Int.add_zero, show ((a + 1 : Nat) : Int) = (a : Int) + 1 by omega, ← zadd (a : Int)] at h
      exact h
    · show σ 39 4 ≤ Int32.ofInt (cnt A : Int)
      rw [hK.1]
      exact Int32.le_refl _
  | succ k ih =>
    intro b acc hb hab h0 hacc h
    have c01 := spr01 A a b
    unfold sumr at h
    rw [← Int.add_assoc] at h
    have ih := ih (b + 1) (acc + spr A a b) (by omega) (by omega) (by omega) (by omega) h
    rw [show ((b + 1 : Nat) : Int) = (b : Int) + 1 by omega, ← zadd (b : Int)] at ih
    refine am_wp_go (am_d_cm _) (fun pc => Nat.beq pc 4 || Nat.beq pc 16) 60 ?_
    refine And.intro (fun c1 => ?_) (fun c1 => ?_)
    · have c1 : σ 39 4 ≤ Int32.ofInt (b : Int) := c1
      rw [hK.1, zle (by unfold zr; omega) (by unfold zr; omega)] at c1
      omega
    · refine s_cbA d _ (by omega) (by omega) hK ?_
      refine s_cbA d _ (by omega) (by omega) hK ?_
      by_cases e : cbA A a b = cbA A b a
      · rw [show spr A a b = 0 from if_pos e, Int.add_zero] at ih
        refine And.intro (fun _ => ?_) (fun q => absurd (show (if cbA A a b = true then (1 : Int32) else 0) = if cbA A b a = true then 1 else 0 by rw [e]) q)
        exact ih
      · rw [show spr A a b = 1 from if_neg e, ← zadd acc] at ih
        refine And.intro (fun q => ?_) (fun _ => ih)
        have q : (if cbA A a b = true then (1 : Int32) else 0) = if cbA A b a = true then 1 else 0 := q
        exfalso
        revert q e
        cases cbA A a b <;> cases cbA A b a <;> decide
set_option maxHeartbeats 1000000 in
set_option maxRecDepth 100000 in
theorem s_sure_out (d : Nat) (Q : am_Q) (hK : KO A σ) : ∀ (k a : Nat) (acc : Int) (x3 : Value), a + k = cnt A → 0 ≤ acc → acc + 7 * k ≤ 900 →
    Q (some (.int (Int32.ofInt (acc + sumr (fun a => sumr (spr A a) (a + 1) (cnt A - (a + 1))) a k)))) (lo_M n w3 g σ τ r1 r2) →
    am_wp (am_d (d + 1)) T_X3_surePairs Q (4, [.ref 39, .int (Int32.ofInt acc), .int (Int32.ofInt (a : Int)), x3], [], 0, 0) (lo_M n w3 g σ τ r1 r2) := by
  have hc := cnt_le A
  intro k
  induction k with
  | zero =>
    intro a acc x3 ha h0 hacc h
    have hae : a = cnt A := by omega
    subst hae
    refine am_wp_go (am_d_cm _) (fun pc => Nat.beq pc 4 || Nat.beq pc 16) 60 ?_
    refine And.intro (fun c1 => ?_) (fun c1 => absurd ?_ c1)
    · unfold sumr at h
      rw [Int.add_zero] at h
      exact h
    · show σ 39 4 ≤ Int32.ofInt (cnt A : Int)
      rw [hK.1]
      exact Int32.le_refl _
  | succ k ih =>
    intro a acc x3 ha h0 hacc h
    refine am_wp_go (am_d_cm _) (fun pc => Nat.beq pc 4 || Nat.beq pc 16) 60 ?_
    refine And.intro (fun c1 => ?_) (fun c1 => ?_)
    · have c1 : σ 39 4 ≤ Int32.ofInt (a : Int) := c1
      rw [hK.1, zle (by unfold zr; omega) (by unfold zr; omega)] at c1
      omega
    · show am_wp _ _ _ (16, [.ref 39, .int (Int32.ofInt acc), .int (Int32.ofInt (a : Int)), .int (Int32.ofInt (a : Int) + Int32.ofInt 1)], [], 0, 0) _
      rw [zadd, show ((a : Int) + 1) = ((a + 1 : Nat) : Int) by omega]
      have sr := sumr_rng (f := spr A a) (M := 1) (spr01 A a) (cnt A - (a + 1)) (a + 1)
      refine s_sure_in d Q hK (by omega) (cnt A - (a + 1)) (a + 1) acc (by omega) (by omega) h0 (by omega) ?_
      refine ih (a + 1) _ _ (by omega) (by omega) (by omega) ?_
      rw [show sumr (fun a => sumr (spr A a) (a + 1) (cnt A - (a + 1))) a (k + 1) = sumr (spr A a) (a + 1) (cnt A - (a + 1)) + sumr (fun a => sumr (spr A a) (a + 1) (cnt A - (a + 1))) (a + 1) k from rfl, ← Int.add_assoc] at h
      exact h
set_option maxRecDepth 100000 in
theorem c_sure (d : Nat) (Q : am_Q) (hx : IX A B σ) (hwf : WF A B) (hfl : σ 4 16 = Int32.ofInt 0 ∨ σ 4 16 = Int32.ofInt 1 ∧ KO A σ) (h : ∀ σ' : Nat → Nat → Int32, (∀ c, c ≠ 4 → ¬ (39 ≤ c ∧ c ≤ 43) → σ' c = σ c) → (∀ i, i ≠ 16 → σ' 4 i = σ 4 i) → σ' 4 16 = Int32.ofInt 1 → KO A σ' → Q (some (.int (Int32.ofInt (f_sure A)))) (lo_M n w3 g σ' τ r1 r2)) : am_d (d + 6) 73 [.ref 4] 0 0 (lo_M n w3 g σ τ r1 r2) Q := by
  have hc := cnt_le A
  refine am_goT T_X9_sure [.ref 4] rfl rfl (fun _ => false) 60 ?_
  refine s_findOrders d _ hx hwf hfl (fun σ' k1 k2 k3 k4 => ?_)
  refine am_goT (d := d + 4) (k := 25) T_X3_surePairs [.ref 39, .null, .null, .null] rfl rfl (fun pc => Nat.beq pc 4) 60 ?_
  refine s_sure_out (d + 3) _ k4 (cnt A) 0 0 .null (by omega) (by omega) (by omega) ?_
  rw [Int.zero_add]
  exact h σ' k1 k2 k3 k4
set_option maxRecDepth 100000 in
theorem c_came (d : Nat) (Q : am_Q) {z : Int} (hz : zr z) (hx : IX A B σ) (hwf : WF A B) (hfl : σ 4 16 = Int32.ofInt 0 ∨ σ 4 16 = Int32.ofInt 1 ∧ KO A σ)
    (h0 : ¬ (z = -1 ∨ (0 ≤ z ∧ z < cnt A)) → Q (some (.int (Int32.ofInt (f_came A z)))) (lo_M n w3 g σ τ r1 r2))
    (h : ∀ σ' : Nat → Nat → Int32, (∀ c, c ≠ 4 → ¬ (39 ≤ c ∧ c ≤ 43) → σ' c = σ c) → (∀ i, i ≠ 16 → σ' 4 i = σ 4 i) → σ' 4 16 = Int32.ofInt 1 → KO A σ' → Q (some (.int (Int32.ofInt (f_came A z)))) (lo_M n w3 g σ' τ r1 r2)) : am_d (d + 6) 72 [.ref 4, .int (Int32.ofInt z)] 0 0 (lo_M n w3 g σ τ r1 r2) Q := by
  have hc := cnt_le A
  have t7 := two7 hc
  have go : (z = -1 ∨ (0 ≤ z ∧ z < cnt A)) → am_run (am_d (d + 5)) T_X9_came Q (fun _ => false) (am_wp (am_d (d + 5)) T_X9_came Q) 40 (16, [.ref 4, .int (Int32.ofInt z)], [], 0, 0) (lo_M n w3 g σ τ r1 r2) := by
    intro cz
    refine s_findOrders d _ hx hwf hfl (fun σ' k1 k2 k3 k4 => ?_)
    have h := h σ' k1 k2 k3 k4
    unfold f_came at h
    rw [if_neg (fun q => by omega)] at h
    refine And.intro (fun c2 => ?_) (fun c2 => ?_)
    · rw [zeq hz (by unfold zr; omega)] at c2
      rw [if_pos c2] at h
      refine am_goT (d := d + 4) (k := 23) T_X3_howMany [.ref 39] rfl rfl (fun _ => false) 60 ?_
      refine ixi (2 ^ cnt A - 1) 128 (by omega) ?_ k4.2.1
      rw [← k4.2.2.2.1 _ (by omega)] at h
      exact h
    · rw [zeq hz (by unfold zr; omega)] at c2
      rw [if_neg c2] at h
      show am_d (d + 5) 24 [.ref 39, .int (Int32.ofInt z)] 0 0 _ _
      rw [show Int32.ofInt z = Int32.ofInt (z.toNat : Int) by congr 1; omega]
      refine am_goT (d := d + 4) (k := 24) T_X3_placesOf [.ref 39, .int (Int32.ofInt (z.toNat : Int)), .null, .null] rfl rfl (fun pc => Nat.beq pc 4) 60 ?_
      refine s_places (d + 2) _ hc (show z.toNat < cnt A by omega) (hdf_7 hc _) k4.2.2.1 k4.2.1 k4.2.2.2.1 k4.2.2.2.2 ?_ (2 ^ cnt A) 0 (by omega)
      exact h
  refine am_goT T_X9_came [.ref 4, .int (Int32.ofInt z)] rfl rfl (fun pc => Nat.beq pc 16) 60 ?_
  refine And.intro (fun c1 => ?_) (fun c1 => ?_)
  · rw [zeq hz (by unfold zr; omega)] at c1
    exact am_wp_run (am_d_cm _) _ 40 (go (Or.inl c1))
  · rw [zeq hz (by unfold zr; omega)] at c1
    refine s_isThere (d + 3) _ hz hc hx.1.2.2.1 ?_
    by_cases c : 0 ≤ z ∧ z < cnt A
    · rw [if_pos c]
      refine And.intro (fun q => absurd q (by decide)) (fun _ => ?_)
      exact am_wp_run (am_d_cm _) _ 40 (go (Or.inr c))
    · rw [if_neg c]
      refine And.intro (fun _ => ?_) (fun q => absurd rfl q)
      have h0 := h0 (fun q => by omega)
      unfold f_came at h0
      rw [if_pos ⟨c1, c⟩] at h0
      exact h0
end CM
end
section
/-! the reference: where things stand, small things -/
def rT (A : aN) (σ : Nat → Nat → Int32) : Prop := σ 56 6 = Int32.ofInt (A 0 0 : Int) ∧ ∀ i, i < 40 → σ 61 i = Int32.ofInt (A 1 i : Int)
def rR (A : aN) (σ : Nat → Nat → Int32) : Prop := ∀ m, m < 60 → σ 65 m = Int32.ofInt (A 2 m : Int)
def rS (A : aN) (σ : Nat → Nat → Int32) : Prop := ∀ i, i < 6 → σ 66 i = Int32.ofInt (A 3 i : Int)
def rL (A : aN) (σ : Nat → Nat → Int32) : Prop := ∀ a, a < 7 → ∀ b, b < 7 → σ 67 (7 * a + b) = Int32.ofInt (A (20 + a) b : Int)
def rW (w : Nat → Nat) (σ : Nat → Nat → Int32) : Prop := ∀ p, p < 7 → σ 64 p = Int32.ofInt (w p : Int)
def rF (A : aN) (σ : Nat → Nat → Int32) : Prop := σ 56 19 = Int32.ofInt (A 0 1 : Int) ∧ ∀ f, f < A 0 1 → σ 70 (3 * f) = Int32.ofInt (A 5 f : Int) ∧ σ 70 (3 * f + 1) = Int32.ofInt (A 6 f : Int) ∧ σ 70 (3 * f + 2) = Int32.ofInt (A 7 f : Int)
def rU (A : aN) (σ : Nat → Nat → Int32) : Prop := σ 56 27 = Int32.ofInt (A 0 2 : Int) ∧ ∀ p, p < 7 → σ 75 p = Int32.ofInt (A 8 p : Int) ∧ σ 76 p = Int32.ofInt (A 9 p : Int)
def rH (A : aN) (B : aZ) (σ : Nat → Nat → Int32) : Prop := ∀ s, s < 4 → σ 57 s = Int32.ofInt (B 0 s) ∧ σ 58 s = Int32.ofInt (A 11 s : Int) ∧ ∀ i, i < A 11 s → σ 59 (60 * s + i) = Int32.ofInt (B (1 + s) i)
def IM (A : aN) (B : aZ) (σ : Nat → Nat → Int32) : Prop := rT A σ ∧ rR A σ ∧ rS A σ ∧ rL A σ ∧ rW (A 4) σ ∧ rF A σ ∧ rU A σ ∧ rH A B σ ∧ σ 56 4 = Int32.ofInt (A 0 3 : Int)
/-- who is there, as read -/
def RD (A : aN) (σ : Nat → Nat → Int32) : Prop := σ 56 8 = Int32.ofInt (cnt A : Int) ∧ ∀ p, p < cnt A → σ 62 p = Int32.ofInt (mn A p : Int) ∧ σ 63 p = Int32.ofInt (wsh A p : Int)
/-- all on which seats hang, w the waiting -/
def RB (A : aN) (w : Nat → Nat) (σ : Nat → Nat → Int32) : Prop := RD A σ ∧ rR A σ ∧ rS A σ ∧ rL A σ ∧ rW w σ
def rscr (c : Nat) : Prop := c = 60 ∨ c = 62 ∨ c = 63 ∨ c = 68 ∨ c = 69 ∨ (71 ≤ c ∧ c ≤ 74)
theorem RB_fr {A : aN} {w : Nat → Nat} {σ σ' : Nat → Nat → Int32} (h : RB A w σ) (h8 : σ' 56 8 = σ 56 8) (hf : ∀ c, 62 ≤ c → c ≤ 67 → σ' c = σ c) : RB A w σ' := by
  obtain ⟨⟨p1, p2⟩, hR, hS, hL, hW⟩ := h
  refine ⟨⟨?_, ?_⟩, ?_, ?_, ?_, ?_⟩
  · rw [h8]; exact p1
  · rw [hf 62 (by omega) (by omega), hf 63 (by omega) (by omega)]; exact p2
  · unfold rR; rw [hf 65 (by omega) (by omega)]; exact hR
  · unfold rS; rw [hf 66 (by omega) (by omega)]; exact hS
  · unfold rL; rw [hf 67 (by omega) (by omega)]; exact hL
  · unfold rW; rw [hf 64 (by omega) (by omega)]; exact hW
theorem IM_fr {A : aN} {B : aZ} {σ σ' : Nat → Nat → Int32} (h : IM A B σ) (hf : ∀ c, 57 ≤ c → c < 77 → ¬ rscr c → σ' c = σ c) (h4 : ∀ i, i = 4 ∨ i = 6 ∨ i = 19 ∨ i = 27 → σ' 56 i = σ 56 i) : IM A B σ' := by
  obtain ⟨⟨t1, t2⟩, hR, hS, hL, hW, ⟨f1, f2⟩, ⟨u1, u2⟩, hH, hl⟩ := h
  have e : ∀ c, 57 ≤ c → c < 77 → c ≠ 60 → c ≠ 62 → c ≠ 63 → c ≠ 68 → c ≠ 69 → ¬ (71 ≤ c ∧ c ≤ 74) → σ' c = σ c := fun c h1 h2 h3 h4 h5 h6 h7 h8 => hf c h1 h2 (fun q => by rcases q with q | q | q | q | q | q <;> omega)
  refine ⟨⟨?_, ?_⟩, ?_, ?_, ?_, ?_, ⟨?_, ?_⟩, ⟨?_, ?_⟩, ?_, ?_⟩
  · rw [h4 6 (by omega)]; exact t1
  · rw [e 61 (by omega) (by omega) (by omega) (by omega) (by omega) (by omega) (by omega) (by omega)]; exact t2
  · unfold rR; rw [e 65 (by omega) (by omega) (by omega) (by omega) (by omega) (by omega) (by omega) (by omega)]; exact hR
  · unfold rS; rw [e 66 (by omega) (by omega) (by omega) (by omega) (by omega) (by omega) (by omega) (by omega)]; exact hS
  · unfold rL; rw [e 67 (by omega) (by omega) (by omega) (by omega) (by omega) (by omega) (by omega) (by omega)]; exact hL
  · unfold rW; rw [e 64 (by omega) (by omega) (by omega) (by omega) (by omega) (by omega) (by omega) (by omega)]; exact hW
  · rw [h4 19 (by omega)]; exact f1
  · rw [e 70 (by omega) (by omega) (by omega) (by omega) (by omega) (by omega) (by omega) (by omega)]; exact f2
  · rw [h4 27 (by omega)]; exact u1
  · rw [e 75 (by omega) (by omega) (by omega) (by omega) (by omega) (by omega) (by omega) (by omega), e 76 (by omega) (by omega) (by omega) (by omega) (by omega) (by omega) (by omega) (by omega)]; exact u2
  · unfold rH; rw [e 57 (by omega) (by omega) (by omega) (by omega) (by omega) (by omega) (by omega) (by omega), e 58 (by omega) (by omega) (by omega) (by omega) (by omega) (by omega) (by omega) (by omega), e 59 (by omega) (by omega) (by omega) (by omega) (by omega) (by omega) (by omega) (by omega)]; exact hH
  · rw [h4 4 (by omega)]; exact hl
theorem prz_s (rn : Nat → Nat) (m : Nat) : prz rn (m + 1) = prz rn m + rn m := rfl
theorem yrz {a : Int} (h : zr a) : yr a := by
  unfold zr at h
  unfold yr
  omega
set_option maxRecDepth 100000 in
theorem r_in (d : Nat) {v lo hi : Int} (hv : yr v) (hlo : yr lo) (hhi : yr hi) (M : am_M) (Q : am_Q) (h : Q (some (.int (if lo ≤ v ∧ v ≤ hi then 1 else 0))) M) : am_d (d + 1) 109 [.long (Int64.ofInt v), .long (Int64.ofInt lo), .long (Int64.ofInt hi)] 0 0 M Q := by
  refine am_goT T_X10_in [.long (Int64.ofInt v), .null, .long (Int64.ofInt lo), .null, .long (Int64.ofInt hi), .null] rfl rfl (fun _ => false) 30 ?_
  refine And.intro (fun c1 => And.intro (Or.inl rfl) ?_) (fun c1 => And.intro (fun c2 => And.intro (Or.inl rfl) ?_) (fun c2 => And.intro (Or.inr rfl) ?_))
  · have c1 : lg_cmp (Int64.ofInt v) (Int64.ofInt lo) < 0 := c1
    rw [lg_cmp_lt, ylt hv hlo] at c1
    rw [if_neg (fun q => by omega)] at h
    exact h
  · have c2 : 0 < lg_cmp (Int64.ofInt v) (Int64.ofInt hi) := c2
    rw [lg_cmp_gt, ylt hhi hv] at c2
    rw [if_neg (fun q => by omega)] at h
    exact h
  · have c1 : ¬ lg_cmp (Int64.ofInt v) (Int64.ofInt lo) < 0 := c1
    have c2 : ¬ 0 < lg_cmp (Int64.ofInt v) (Int64.ofInt hi) := c2
    rw [lg_cmp_lt, ylt hv hlo] at c1
    rw [lg_cmp_gt, ylt hhi hv] at c2
    rw [if_pos ⟨by omega, by omega⟩] at h
    exact h
theorem r_inZ (d : Nat) {v lo hi : Int} (hv : zr v) (hlo : zr lo) (hhi : zr hi) (M : am_M) (Q : am_Q) (h : Q (some (.int (if lo ≤ v ∧ v ≤ hi then 1 else 0))) M) : am_d (d + 1) 109 [.long (Int32.ofInt v).toInt64, .long (Int64.ofInt lo), .long (Int64.ofInt hi)] 0 0 M Q := by
  rw [yofz hv]
  exact r_in d (yrz hv) (yrz hlo) (yrz hhi) M Q h
theorem r_inI (d : Nat) {v lo hi : Int} (hv : zr v) (hlo : zr lo) (hhi : zr hi) (M : am_M) (Q : am_Q) (h : Q (some (.int (if lo ≤ v ∧ v ≤ hi then 1 else 0))) M) : am_d (d + 1) 109 [.long (Int32.ofInt v).toInt64, .long (Int64.ofInt lo), .long (Int32.ofInt hi).toInt64] 0 0 M Q := by
  rw [yofz hv, yofz hhi]
  exact r_in d (yrz hv) (yrz hlo) (yrz hhi) M Q h
set_option maxRecDepth 100000 in
theorem r_isTwo (d : Nat) {v : Int} (hv : zr v) (M : am_M) (Q : am_Q) (h : Q (some (.int (if 0 ≤ v ∧ v ≤ 1 then 1 else 0))) M) : am_d (d + 2) 111 [.int (Int32.ofInt v)] 0 0 M Q := by
  refine am_goT T_X10_isTwo [.int (Int32.ofInt v)] rfl rfl (fun _ => false) 30 ?_
  refine r_inZ d (lo := 0) (hi := 1) hv (by unfold zr; omega) (by unfold zr; omega) _ _ ?_
  by_cases c : 0 ≤ v ∧ v ≤ 1
  · rw [if_pos c] at h ⊢
    exact And.intro (Or.inr rfl) h
  · rw [if_neg c] at h ⊢
    exact And.intro (Or.inl rfl) h
set_option maxRecDepth 100000 in
theorem r_isSeven (d : Nat) {v : Int} (hv : zr v) (M : am_M) (Q : am_Q) (h : Q (some (.int (if 0 ≤ v ∧ v ≤ 6 then 1 else 0))) M) : am_d (d + 2) 112 [.int (Int32.ofInt v)] 0 0 M Q := by
  refine am_goT T_X10_isSeven [.int (Int32.ofInt v)] rfl rfl (fun _ => false) 30 ?_
  refine r_inZ d (lo := 0) (hi := 6) hv (by unfold zr; omega) (by unfold zr; omega) _ _ ?_
  by_cases c : 0 ≤ v ∧ v ≤ 6
  · rw [if_pos c] at h ⊢
    exact And.intro (Or.inr rfl) h
  · rw [if_neg c] at h ⊢
    exact And.intro (Or.inl rfl) h
set_option maxRecDepth 100000 in
theorem r_isSheet (d : Nat) {v : Int} (hv : zr v) (M : am_M) (Q : am_Q) (h : Q (some (.int (if 0 ≤ v ∧ v ≤ 3 then 1 else 0))) M) : am_d (d + 2) 115 [.int (Int32.ofInt v)] 0 0 M Q := by
  refine am_goT T_X10_isSheet [.int (Int32.ofInt v)] rfl rfl (fun _ => false) 30 ?_
  refine r_inZ d (lo := 0) (hi := 3) hv (by unfold zr; omega) (by unfold zr; omega) _ _ ?_
  by_cases c : 0 ≤ v ∧ v ≤ 3
  · rw [if_pos c] at h ⊢
    exact And.intro (Or.inr rfl) h
  · rw [if_neg c] at h ⊢
    exact And.intro (Or.inl rfl) h
set_option maxRecDepth 100000 in
theorem r_isIn (d : Nat) {m p : Nat} (hm : m < 128) (hp : p < 8) (M : am_M) (Q : am_Q) (h : Q (some (.int (if bitk m p = true then 1 else 0))) M) : am_d (d + 1) 113 [.int (Int32.ofInt (m : Int)), .int (Int32.ofInt (p : Int))] 0 0 M Q := by
  have b := bitv7 m hm p hp
  refine am_goT T_X10_isIn [.int (Int32.ofInt (m : Int)), .int (Int32.ofInt (p : Int))] rfl rfl (fun _ => false) 30 ?_
  refine And.intro (fun c1 => And.intro (Or.inr rfl) ?_) (fun c1 => And.intro (Or.inl rfl) ?_)
  · have c1 : (Int32.ofInt (m : Int) >>> (Int32.ofInt (p : Int) &&& 31)) &&& Int32.ofInt 1 = Int32.ofInt 1 := c1
    rw [b] at c1
    by_cases e : bitk m p = true
    · rw [if_pos e] at h
      exact h
    · rw [if_neg e] at c1
      exact absurd c1 (by decide)
  · have c1 : ¬ (Int32.ofInt (m : Int) >>> (Int32.ofInt (p : Int) &&& 31)) &&& Int32.ofInt 1 = Int32.ofInt 1 := c1
    rw [b] at c1
    by_cases e : bitk m p = true
    · rw [if_pos e] at c1
      exact absurd rfl c1
    · rw [if_neg e] at h
      exact h
set_option maxRecDepth 100000 in
theorem r_least (d : Nat) {a b : Int} (ha : zr a) (hb : zr b) (M : am_M) (Q : am_Q) (h : Q (some (.int (Int32.ofInt (min a b)))) M) : am_d (d + 1) 132 [.int (Int32.ofInt a), .int (Int32.ofInt b)] 0 0 M Q := by
  refine am_goT T_X10_least [.int (Int32.ofInt a), .int (Int32.ofInt b)] rfl rfl (fun _ => false) 30 ?_
  refine And.intro (fun c1 => ?_) (fun c1 => ?_)
  · rw [zle hb ha] at c1
    rw [show min a b = b by omega] at h
    exact h
  · rw [zle hb ha] at c1
    rw [show min a b = a by omega] at h
    exact h
set_option maxRecDepth 100000 in
theorem r_amount (d : Nat) {a : Int} (ha : zr a) (h3 : -2147483648 < a) (M : am_M) (Q : am_Q) (h : Q (some (.int (Int32.ofInt (a.natAbs : Int)))) M) : am_d (d + 1) 148 [.int (Int32.ofInt a)] 0 0 M Q := by
  refine am_goT T_X10_amount [.int (Int32.ofInt a)] rfl rfl (fun _ => false) 30 ?_
  refine And.intro (fun c1 => ?_) (fun c1 => ?_)
  · rw [z0le ha] at c1
    rw [show (a.natAbs : Int) = a by omega] at h
    exact h
  · rw [z0le ha] at c1
    rw [show (a.natAbs : Int) = -a by omega, ← zneg] at h
    exact h
set_option maxRecDepth 100000 in
theorem r_cut (d : Nat) {f : Int} {v : Int32} (hf : zr f) (M : am_M) (Q : am_Q) (h : Q (some (.int (cutI f v))) M) : am_d (d + 1) 119 [.int (Int32.ofInt f), .int v] 0 0 M Q := by
  unfold cutI at h
  refine am_goT T_X10_cut [.int (Int32.ofInt f), .int v] rfl rfl (fun _ => false) 30 ?_
  refine And.intro (fun c1 => ?_) (fun c1 => And.intro (fun c2 => ?_) (fun c2 => ?_))
  · rw [zeq0 hf] at c1
    rw [if_pos c1] at h
    exact h
  · rw [zeq0 hf] at c1
    rw [zeq hf (by unfold zr; omega)] at c2
    rw [if_neg c1, if_pos c2] at h
    exact h
  · rw [zeq0 hf] at c1
    rw [zeq hf (by unfold zr; omega)] at c2
    rw [if_neg c1, if_neg c2] at h
    exact h
section RL
variable {n w3 : Nat} {g : Nat → Nat × Nat} {σ : Nat → Nat → Int32} {τ : Nat → Nat → Int64} {r1 r2 : Nat} {A : aN} {B : aZ}
set_option maxRecDepth 100000 in
theorem r_met (d : Nat) (Q : am_Q) {k : Int} (h : Q (some (.int (Int32.ofInt (-10 - k)))) (lo_M n w3 g (am_u σ 56 4 (Int32.ofInt k)) τ r1 r2)) : am_d (d + 1) 114 [.ref 56, .int (Int32.ofInt k)] 0 0 (lo_M n w3 g σ τ r1 r2) Q := by
  rw [← zsub] at h
  exact am_goT T_X10_met [.ref 56, .int (Int32.ofInt k)] rfl rfl (fun _ => false) 30 h
set_option maxRecDepth 100000 in
theorem r_no (d : Nat) (M : am_M) (Q : am_Q) (h : Q (some (.long (Int64.ofInt (-9223372036854775806)))) M) : am_d (d + 1) 110 [.int (Int32.ofInt (-2))] 0 0 M Q := by
  refine am_goT T_X10_no [.int (Int32.ofInt (-2))] rfl rfl (fun _ => false) 30 ?_
  exact h
set_option maxRecDepth 100000 in
theorem r_here (d : Nat) (Q : am_Q) {i ln : Nat} {tx : Nat → Nat} (hi : i ≤ 40) (hln : ln ≤ 40) (h7 : σ 56 7 = Int32.ofInt (i : Int)) (h6 : σ 56 6 = Int32.ofInt (ln : Int)) (ht : ∀ i, i < 40 → σ 61 i = Int32.ofInt (tx i : Int)) (h1 : i < ln → Q (some (.int (Int32.ofInt (tx i : Int)))) (lo_M n w3 g σ τ r1 r2)) (h0 : ¬ i < ln → Q (some (.int (Int32.ofInt (-1)))) (lo_M n w3 g σ τ r1 r2)) : am_d (d + 1) 125 [.ref 56] 0 0 (lo_M n w3 g σ τ r1 r2) Q := by
  refine am_goT T_X10_here [.ref 56] rfl rfl (fun _ => false) 30 ?_
  refine And.intro (fun c1 => ?_) (fun c1 => ?_)
  · have c1 : σ 56 6 ≤ σ 56 7 := c1
    rw [h6, h7, zle (by unfold zr; omega) (by unfold zr; omega)] at c1
    exact h0 (by omega)
  · have c1 : ¬ σ 56 6 ≤ σ 56 7 := c1
    rw [h6, h7, zle (by unfold zr; omega) (by unfold zr; omega)] at c1
    refine ixi i 40 (by omega) ?_ h7
    have h1 := h1 (by omega)
    rw [← ht i (by omega)] at h1
    exact h1
set_option maxRecDepth 100000 in
theorem r_figure (d : Nat) (Q : am_Q) {i ln most : Nat} {tx : Nat → Nat} (hi : i ≤ 40) (hln : ln ≤ 40) (hmo : most ≤ 9) (htx : ∀ i, tx i ≤ 255) (h7 : σ 56 7 = Int32.ofInt (i : Int)) (h6 : σ 56 6 = Int32.ofInt (ln : Int)) (ht : ∀ i, i < 40 → σ 61 i = Int32.ofInt (tx i : Int)) (h1 : i < ln → 48 ≤ tx i → tx i ≤ 48 + most → Q (some (.int (Int32.ofInt ((tx i : Int) - 48)))) (lo_M n w3 g (am_u σ 56 7 (Int32.ofInt ((i + 1 : Nat) : Int))) τ r1 r2)) (h0 : ¬ (i < ln ∧ 48 ≤ tx i ∧ tx i ≤ 48 + most) → Q (some (.int (Int32.ofInt (-1)))) (lo_M n w3 g σ τ r1 r2)) : am_d (d + 2) 127 [.ref 56, .int (Int32.ofInt (most : Int))] 0 0 (lo_M n w3 g σ τ r1 r2) Q := by
  have hb := htx i
  refine am_goT T_X10_figure [.ref 56, .int (Int32.ofInt (most : Int)), .null] rfl rfl (fun _ => false) 60 ?_
  refine r_here d _ hi hln h7 h6 ht (fun c => ?_) (fun c => ?_)
  · show am_d (d + 1) 109 [.long (Int32.ofInt (tx i : Int) - Int32.ofInt 48).toInt64, .long (Int64.ofInt 0), .long (Int32.ofInt (most : Int)).toInt64] 0 0 _ _
    rw [zsub]
    refine r_inI d (lo := 0) (by unfold zr; omega) (by unfold zr; omega) (by unfold zr; omega) _ _ ?_
    by_cases c2 : 0 ≤ (tx i : Int) - 48 ∧ (tx i : Int) - 48 ≤ (most : Int)
    · rw [if_pos c2]
      refine And.intro (fun q => absurd q (by decide)) (fun _ => ?_)
      have h1 := h1 c (by omega) (by omega)
      rw [show ((i + 1 : Nat) : Int) = (i : Int) + 1 by omega, ← zadd, ← h7] at h1
      exact h1
    · rw [if_neg c2]
      refine And.intro (fun _ => ?_) (fun q => absurd rfl q)
      exact h0 (fun q => by omega)
  · show am_d (d + 1) 109 [.long (Int32.ofInt (-1) - Int32.ofInt 48).toInt64, .long (Int64.ofInt 0), .long (Int32.ofInt (most : Int)).toInt64] 0 0 _ _
    rw [zsub]
    refine r_inI d (lo := 0) (by unfold zr; omega) (by unfold zr; omega) (by unfold zr; omega) _ _ ?_
    rw [if_neg (by omega)]
    refine And.intro (fun _ => ?_) (fun q => absurd rfl q)
    exact h0 (fun q => c q.1)
set_option maxRecDepth 100000 in
theorem r_goesIn (d : Nat) (Q : am_Q) {w : Nat → Nat} {p : Nat} (hp : p < cnt A) (hw : ∀ p, w p ≤ 59) (hb : RB A w σ) (h : Q (some (.int (Int32.ofInt (gin A p (w p) : Int)))) (lo_M n w3 g σ τ r1 r2)) : am_d (d + 2) 133 [.ref 56, .int (Int32.ofInt (p : Int))] 0 0 (lo_M n w3 g σ τ r1 r2) Q := by
  have hc := cnt_le A
  have hm := mn_lt hp
  have hwp := hw p
  refine am_goT T_X10_goesIn [.ref 56, .int (Int32.ofInt (p : Int))] rfl rfl (fun _ => false) 60 ?_
  refine ixi p 7 (by omega) ?_
  refine ixi p 7 (by omega) ?_
  show am_d (d + 1) 132 [.int (Int32.ofInt 59), .int (σ 62 p + σ 64 p)] 0 0 _ _
  rw [(hb.1.2 p hp).1, hb.2.2.2.2 p (by omega), zadd]
  refine r_least d (by unfold zr; omega) (by unfold zr; omega) _ _ ?_
  rw [show min (59 : Int) ((mn A p : Int) + (w p : Int)) = (gin A p (w p) : Int) by unfold gin; omega]
  exact h
set_option maxHeartbeats 1000000 in
set_option maxRecDepth 100000 in
theorem r_wet_loop (d : Nat) (Q : am_Q) {w : Nat → Nat} {p : Nat} (hp : p < cnt A) (hw : ∀ p, w p ≤ 59) (hb : RB A w σ) (h : Q (some (.int (Int32.ofInt ((prz (A 2) (gin A p (w p)) : Int) - (prz (A 2) (mn A p) : Int))))) (lo_M n w3 g σ τ r1 r2)) : ∀ (k m : Nat), m + k = gin A p (w p) →
    am_wp (am_d (d + 2)) T_X10_wet Q (9, [.ref 56, .int (Int32.ofInt (p : Int)), .int (Int32.ofInt ((prz (A 2) m : Int) - (prz (A 2) (mn A p) : Int))), .int (Int32.ofInt (m : Int))], [], 0, 0) (lo_M n w3 g σ τ r1 r2) := by
  have hg : gin A p (w p) ≤ 59 := by unfold gin; omega
  intro k
  induction k with
  | zero =>
    intro m hm
    have hme : m = gin A p (w p) := by omega
    subst hme
    refine am_wp_go (am_d_cm _) (fun pc => Nat.beq pc 9) 60 ?_
    refine r_goesIn d _ hp hw hb ?_
    refine And.intro (fun c1 => ?_) (fun c1 => absurd (Int32.le_refl _) c1)
    exact h
  | succ k ih =>
    intro m hm
    have ih := ih (m + 1) (by omega)
    refine am_wp_go (am_d_cm _) (fun pc => Nat.beq pc 9) 60 ?_
    refine r_goesIn d _ hp hw hb ?_
    refine And.intro (fun c1 => ?_) (fun c1 => ?_)
    · rw [zle (by unfold zr; omega) (by unfold zr; omega)] at c1
      omega
    · refine ixi m 60 (by omega) ?_
      rw [show ((prz (A 2) (m + 1) : Nat) : Int) - (prz (A 2) (mn A p) : Int) = ((prz (A 2) m : Int) - (prz (A 2) (mn A p) : Int)) + (A 2 m : Int) by rw [prz_s]; omega, show ((m + 1 : Nat) : Int) = (m : Int) + 1 by omega, ← zadd (m : Int), ← zadd ((prz (A 2) m : Int) - (prz (A 2) (mn A p) : Int)), ← hb.2.1 m (by omega)] at ih
      exact ih
set_option maxRecDepth 100000 in
theorem r_wet (d : Nat) (Q : am_Q) {w : Nat → Nat} {p : Nat} (hp : p < cnt A) (hw : ∀ p, w p ≤ 59) (hb : RB A w σ) (h : Q (some (.int (Int32.ofInt ((prz (A 2) (gin A p (w p)) : Int) - (prz (A 2) (mn A p) : Int))))) (lo_M n w3 g σ τ r1 r2)) : am_d (d + 3) 134 [.ref 56, .int (Int32.ofInt (p : Int))] 0 0 (lo_M n w3 g σ τ r1 r2) Q := by
  have hc := cnt_le A
  have hm := mn_lt hp
  refine am_goT T_X10_wet [.ref 56, .int (Int32.ofInt (p : Int)), .null, .null] rfl rfl (fun pc => Nat.beq pc 9) 60 ?_
  refine ixi p 7 (by omega) ?_
  have key := r_wet_loop (σ := σ) (n := n) (w3 := w3) (g := g) (τ := τ) (r1 := r1) (r2 := r2) d Q hp hw hb h (gin A p (w p) - mn A p) (mn A p) (by unfold gin; omega)
  rw [Int.sub_self, ← (hb.1.2 p hp).1] at key
  exact key
set_option maxRecDepth 100000 in
theorem r_isOutside (d : Nat) (Q : am_Q) {w : Nat → Nat} {p : Nat} (hp : p < cnt A) (hw : ∀ p, w p ≤ 59) (h60 : A 3 0 ≤ 60) (hb : RB A w σ) (h : Q (some (.int (if A 3 0 ≤ gin A p (w p) then 1 else 0))) (lo_M n w3 g σ τ r1 r2)) : am_d (d + 3) 144 [.ref 56, .int (Int32.ofInt (p : Int))] 0 0 (lo_M n w3 g σ τ r1 r2) Q := by
  have hg : gin A p (w p) ≤ 59 := by unfold gin; omega
  refine am_goT T_X10_isOutside [.ref 56, .int (Int32.ofInt (p : Int))] rfl rfl (fun _ => false) 60 ?_
  refine r_goesIn d _ hp hw hb ?_
  refine ixi 0 6 (by omega) ?_
  refine And.intro (fun c1 => ?_) (fun c1 => ?_)
  · have c1 : Int32.ofInt (gin A p (w p) : Int) < σ 66 0 := c1
    rw [hb.2.2.1 0 (by omega), zlt (by unfold zr; omega) (by unfold zr; omega)] at c1
    rw [if_neg (by omega)] at h
    exact And.intro (Or.inl rfl) h
  · have c1 : ¬ Int32.ofInt (gin A p (w p) : Int) < σ 66 0 := c1
    rw [hb.2.2.1 0 (by omega), zlt (by unfold zr; omega) (by unfold zr; omega)] at c1
    rw [if_pos (by omega)] at h
    exact And.intro (Or.inr rfl) h
set_option maxRecDepth 100000 in
theorem r_whole (d : Nat) (Q : am_Q) {N : Nat} (hN : N ≤ 7) (hn : σ 56 8 = Int32.ofInt (N : Int)) (h : Q (some (.int (Int32.ofInt ((2 ^ N - 1 : Nat) : Int)))) (lo_M n w3 g σ τ r1 r2)) : am_d (d + 1) 146 [.ref 56] 0 0 (lo_M n w3 g σ τ r1 r2) Q := by
  rw [← all_eq N (by omega), ← hn] at h
  exact am_goT T_X10_whole [.ref 56] rfl rfl (fun _ => false) 30 h
end RL
end
section
/-! the reference: the text is read -/
theorem flz_go {tx : Nat → Nat} {ln i : Nat} (h1 : i < ln) (h2 : i < 28) (h3 : fitc (tx i) (i % 4) = true) : flz tx ln (ln - i) i = flz tx ln (ln - (i + 1)) (i + 1) := by
  rw [show ln - i = (ln - (i + 1)) + 1 by omega]
  show (if 28 ≤ i ∨ fitc (tx i) (i % 4) = false then (i : Int) else flz tx ln (ln - (i + 1)) (i + 1)) = _
  rw [if_neg (fun q => by
    rcases q with q | q
    · omega
    · rw [h3] at q
      exact absurd q (by decide))]
theorem flz_stop {tx : Nat → Nat} {ln i : Nat} (h : i ≤ ln) (hs : i < ln → 28 ≤ i ∨ fitc (tx i) (i % 4) = false) (he : i = ln → ln ≠ 0 ∧ ln % 4 ≠ 3) : flz tx ln (ln - i) i = (i : Int) := by
  by_cases c : i < ln
  · rw [show ln - i = (ln - (i + 1)) + 1 by omega]
    show (if 28 ≤ i ∨ fitc (tx i) (i % 4) = false then (i : Int) else flz tx ln (ln - (i + 1)) (i + 1)) = _
    rw [if_pos (hs c)]
  · have e : i = ln := by omega
    subst e
    rw [Nat.sub_self]
    show (if i = 0 ∨ i % 4 = 3 then (-1 : Int) else (i : Int)) = _
    have := he rfl
    rw [if_neg (by omega)]
theorem fitc_iff (b : Nat) {c m : Nat} (h : (c = 0 ∧ m = 5) ∨ (c = 1 ∧ m = 9) ∨ (c = 2 ∧ m = 6)) : fitc b c = true ↔ 48 ≤ b ∧ b ≤ 48 + m := by
  rcases h with ⟨rfl, rfl⟩ | ⟨rfl, rfl⟩ | ⟨rfl, rfl⟩
  · show (Nat.ble 48 b && Nat.ble b 53) = true ↔ _
    rw [Bool.and_eq_true, Nat.ble_eq, Nat.ble_eq]
  · show (Nat.ble 48 b && Nat.ble b 57) = true ↔ _
    rw [Bool.and_eq_true, Nat.ble_eq, Nat.ble_eq]
  · show (Nat.ble 48 b && Nat.ble b 54) = true ↔ _
    rw [Bool.and_eq_true, Nat.ble_eq, Nat.ble_eq]
theorem fitc_no {b c m : Nat} (h : (c = 0 ∧ m = 5) ∨ (c = 1 ∧ m = 9) ∨ (c = 2 ∧ m = 6)) (q : ¬ (48 ≤ b ∧ b ≤ 48 + m)) : fitc b c = false := by
  cases e : fitc b c with
  | true => exact absurd ((fitc_iff b h).mp e) q
  | false => rfl
section RP
variable {n w3 : Nat} {g : Nat → Nat × Nat} {σ : Nat → Nat → Int32} {τ : Nat → Nat → Int64} {r1 r2 : Nat} {A : aN} {B : aZ}
set_option maxHeartbeats 2000000 in
set_option maxRecDepth 100000 in
theorem r_readsPart (d : Nat) (Q : am_Q) {p ln : Nat} {tx : Nat → Nat} (hp : p ≤ 7) (hpl : 4 * p ≤ ln) (hl0 : ln ≠ 0) (hln : ln ≤ 40) (htx : ∀ i, tx i ≤ 255) (h8 : σ 56 8 = Int32.ofInt (p : Int)) (h7 : σ 56 7 = Int32.ofInt ((4 * p : Nat) : Int)) (h6 : σ 56 6 = Int32.ofInt (ln : Int)) (ht : ∀ i, i < 40 → σ 61 i = Int32.ofInt (tx i : Int))
    (hno : ∀ (i : Nat) (σ' : Nat → Nat → Int32), i ≤ ln → (∀ c, c ≠ 56 → σ' c = σ c) → (∀ j, j ≠ 7 → σ' 56 j = σ 56 j) → σ' 56 7 = Int32.ofInt (i : Int) → flz tx ln (ln - 4 * p) (4 * p) = (i : Int) → Q (some (.int 0)) (lo_M n w3 g σ' τ r1 r2))
    (hok : ∀ (σ' : Nat → Nat → Int32), p < 7 → 4 * p + 3 ≤ ln → flz tx ln (ln - 4 * p) (4 * p) = flz tx ln (ln - (4 * p + 3)) (4 * p + 3) → (∀ c, c ≠ 56 → c ≠ 62 → c ≠ 63 → σ' c = σ c) → (∀ j, j ≠ 7 → j ≠ 8 → σ' 56 j = σ 56 j) → σ' 56 7 = Int32.ofInt ((4 * p + 3 : Nat) : Int) → σ' 56 8 = Int32.ofInt ((p + 1 : Nat) : Int) → (∀ q, q ≠ p → σ' 62 q = σ 62 q ∧ σ' 63 q = σ 63 q) → σ' 62 p = Int32.ofInt ((10 * (tx (4 * p) - 48) + (tx (4 * p + 1) - 48) : Nat) : Int) → σ' 63 p = Int32.ofInt ((tx (4 * p + 2) - 48 : Nat) : Int) → Q (some (.int 1)) (lo_M n w3 g σ' τ r1 r2)) :
    am_d (d + 3) 128 [.ref 56] 0 0 (lo_M n w3 g σ τ r1 r2) Q := by
  have m0 : (4 * p) % 4 = 0 := by omega
  have m1 : (4 * p + 1) % 4 = 1 := by omega
  have m2 : (4 * p + 2) % 4 = 2 := by omega
  have b0 := htx (4 * p)
  have b1 := htx (4 * p + 1)
  have b2 := htx (4 * p + 2)
  refine am_goT T_X10_readsPart [.ref 56, .null, .null, .null] rfl rfl (fun _ => false) 80 ?_
  refine And.intro (fun c1 => ?_) (fun c1 => ?_)
  · have c1 : σ 56 8 = Int32.ofInt 7 := c1
    rw [h8, zeq (by unfold zr; omega) (by unfold zr; omega)] at c1
    refine And.intro (Or.inl rfl) ?_
    exact hno (4 * p) σ hpl (fun _ _ => rfl) (fun _ _ => rfl) h7 (flz_stop hpl (fun _ => Or.inl (by omega)) (fun _ => by omega))
  · have c1 : ¬ σ 56 8 = Int32.ofInt 7 := c1
    rw [h8, zeq (by unfold zr; omega) (by unfold zr; omega)] at c1
    refine r_figure d _ (i := 4 * p) (ln := ln) (most := 5) (tx := tx) (by omega) hln (by omega) htx h7 h6 ht (fun a1 a2 a3 => ?_) (fun a => ?_)
    · refine And.intro (fun q => ?_) (fun _ => ?_)
      · rw [zeq (by unfold zr; omega) (by unfold zr; omega)] at q
        omega
      refine r_figure d _ (i := 4 * p + 1) (ln := ln) (most := 9) (tx := tx) (by omega) hln (by omega) htx (by rw [am_u_at, if_pos rfl]) (by rw [am_u_at, if_neg (by decide)]; exact h6) ht (fun a4 a5 a6 => ?_) (fun a => ?_)
      · refine And.intro (fun q => ?_) (fun _ => ?_)
        · rw [zeq (by unfold zr; omega) (by unfold zr; omega)] at q
          omega
        refine r_figure d _ (i := 4 * p + 2) (ln := ln) (most := 6) (tx := tx) (by omega) hln (by omega) htx (by rw [am_u_at, if_pos rfl]) (by rw [am_u_at, if_neg (by decide), am_u_at, if_neg (by decide)]; exact h6) ht (fun a7 a8 a9 => ?_) (fun a => ?_)
        · refine And.intro (fun q => ?_) (fun _ => ?_)
          · rw [zeq (by unfold zr; omega) (by unfold zr; omega)] at q
            omega
          refine ixi p 7 (by omega) ?_ h8
          refine ixi p 7 (by omega) ?_ h8
          refine And.intro (Or.inr rfl) ?_
          refine hok (am_u (am_u (am_u (am_u (am_u (am_u σ 56 7 (Int32.ofInt ((4 * p + 1 : Nat) : Int))) 56 7 (Int32.ofInt ((4 * p + 1 + 1 : Nat) : Int))) 56 7 (Int32.ofInt ((4 * p + 2 + 1 : Nat) : Int))) 62 p (Int32.ofInt 10 * Int32.ofInt ((tx (4 * p) : Int) - 48) + Int32.ofInt ((tx (4 * p + 1) : Int) - 48))) 63 p (Int32.ofInt ((tx (4 * p + 2) : Int) - 48))) 56 8 (σ 56 8 + Int32.ofInt 1)) (by omega) (by omega) ?_ (fun c e1 e2 e3 => ?_) (fun j e1 e2 => ?_) ?_ ?_ (fun q hq => ?_) ?_ ?_
          · rw [flz_go (i := 4 * p) (by omega) (by omega) (by rw [m0]; exact (fitc_iff _ (by omega)).mpr ⟨a2, a3⟩), flz_go (i := 4 * p + 1) (by omega) (by omega) (by rw [m1]; exact (fitc_iff _ (by omega)).mpr ⟨a5, a6⟩), flz_go (i := 4 * p + 1 + 1) (by omega) (by omega) (by rw [m2]; exact (fitc_iff _ (by omega)).mpr ⟨a8, a9⟩)]
          · rw [am_u_ne e1, am_u_ne e3, am_u_ne e2, am_u_ne e1, am_u_ne e1, am_u_ne e1]
          · rw [am_u_at, if_neg e2, am_u_ne (by decide), am_u_ne (by decide), am_u_at, if_neg e1, am_u_at, if_neg e1, am_u_at, if_neg e1]
          · rw [am_u_at, if_neg (by decide), am_u_ne (by decide), am_u_ne (by decide), am_u_at, if_pos rfl]
          · rw [am_u_at, if_pos rfl, h8, zadd]
            congr 1
          · refine ⟨?_, ?_⟩
            · rw [am_u_ne (by decide), am_u_ne (by decide), am_u_at, if_neg hq, am_u_ne (by decide), am_u_ne (by decide), am_u_ne (by decide)]
            · rw [am_u_ne (by decide), am_u_at, if_neg hq, am_u_ne (by decide), am_u_ne (by decide), am_u_ne (by decide), am_u_ne (by decide)]
          · rw [am_u_ne (by decide), am_u_ne (by decide), am_u_at, if_pos rfl, zmul, zadd]
            congr 1
            omega
          · rw [am_u_ne (by decide), am_u_at, if_pos rfl]
            congr 1
            omega
        · refine And.intro (fun _ => ?_) (fun q => absurd rfl q)
          refine And.intro (Or.inl rfl) ?_
          refine hno (4 * p + 2) (am_u (am_u σ 56 7 (Int32.ofInt ((4 * p + 1 : Nat) : Int))) 56 7 (Int32.ofInt ((4 * p + 1 + 1 : Nat) : Int))) (by omega) (fun c e => by rw [am_u_ne e, am_u_ne e]) (fun j e => by rw [am_u_at, if_neg e, am_u_at, if_neg e]) (by rw [am_u_at, if_pos rfl]) ?_
          rw [flz_go (i := 4 * p) (by omega) (by omega) (by rw [m0]; exact (fitc_iff _ (by omega)).mpr ⟨a2, a3⟩), flz_go (i := 4 * p + 1) (by omega) (by omega) (by rw [m1]; exact (fitc_iff _ (by omega)).mpr ⟨a5, a6⟩)]
          exact flz_stop (i := 4 * p + 2) (by omega) (fun e => Or.inr (by rw [m2]; exact fitc_no (m := 6) (by omega) (fun q => a ⟨e, q⟩))) (fun e => by omega)
      · refine And.intro (fun _ => ?_) (fun q => absurd rfl q)
        refine And.intro (fun _ => ?_) (fun q => absurd rfl q)
        refine And.intro (Or.inl rfl) ?_
        refine hno (4 * p + 1) (am_u σ 56 7 (Int32.ofInt ((4 * p + 1 : Nat) : Int))) (by omega) (fun c e => by rw [am_u_ne e]) (fun j e => by rw [am_u_at, if_neg e]) (by rw [am_u_at, if_pos rfl]) ?_
        rw [flz_go (i := 4 * p) (by omega) (by omega) (by rw [m0]; exact (fitc_iff _ (by omega)).mpr ⟨a2, a3⟩)]
        exact flz_stop (i := 4 * p + 1) (by omega) (fun e => Or.inr (by rw [m1]; exact fitc_no (m := 9) (by omega) (fun q => a ⟨e, q⟩))) (fun e => by omega)
    · refine And.intro (fun _ => ?_) (fun q => absurd rfl q)
      refine And.intro (fun _ => ?_) (fun q => absurd rfl q)
      refine And.intro (fun _ => ?_) (fun q => absurd rfl q)
      refine And.intro (Or.inl rfl) ?_
      exact hno (4 * p) σ hpl (fun _ _ => rfl) (fun _ _ => rfl) h7 (flz_stop hpl (fun e => Or.inr (by rw [m0]; exact fitc_no (m := 5) (by omega) (fun q => a ⟨e, q⟩))) (fun e => by omega))
set_option maxHeartbeats 2000000 in
set_option maxRecDepth 100000 in
theorem r_reads_loop (d : Nat) (Q : am_Q) (hln : A 0 0 ≤ 40) (hl0 : A 0 0 ≠ 0) (htx : ∀ i, A 1 i ≤ 255) : ∀ (k p : Nat) (σ : Nat → Nat → Int32), p + k = 7 → 4 * p ≤ A 0 0 → flt A = flz (A 1) (A 0 0) (A 0 0 - 4 * p) (4 * p) → σ 56 8 = Int32.ofInt (p : Int) → σ 56 7 = Int32.ofInt ((4 * p : Nat) : Int) → rT A σ → (∀ q, q < p → σ 62 q = Int32.ofInt (mn A q : Int) ∧ σ 63 q = Int32.ofInt (wsh A q : Int)) →
    (∀ σ' : Nat → Nat → Int32, (∀ c, c ≠ 56 → c ≠ 62 → c ≠ 63 → σ' c = σ c) → (∀ i, i ≠ 7 → i ≠ 8 → σ' 56 i = σ 56 i) → RD A σ' → Q (some (.int (Int32.ofInt (flt A)))) (lo_M n w3 g σ' τ r1 r2)) →
    am_wp (am_d (d + 3)) T_X10_reads Q (23, [.ref 56, .int (Int32.ofInt 1)], [], 0, 0) (lo_M n w3 g σ τ r1 r2) := by
  intro k
  induction k with
  | zero =>
    intro p σ hp hpl hfl h8 h7 hT hq h
    refine am_wp_go (am_d_cm _) (fun pc => Nat.beq pc 23) 60 ?_
    refine And.intro (fun q => absurd q (by decide)) (fun _ => ?_)
    refine r_readsPart d _ (by omega) hpl hl0 hln htx h8 h7 hT.1 hT.2 (fun i σ' k0 k1 k2 k3 k4 => ?_) (fun σ' k0 => by omega)
    refine And.intro (fun _ => ?_) (fun q => absurd rfl q)
    refine am_goT (d := d + 2) (k := 126) T_X10_nobody [.ref 56] rfl rfl (fun _ => false) 30 ?_
    have h := h (am_u σ' 56 8 (Int32.ofInt 0)) (fun c e1 _ _ => by rw [am_u_ne e1, k1 c e1]) (fun i e1 e2 => by rw [am_u_at, if_neg e2, k2 i e1]) ⟨by
      rw [am_u_at, if_pos rfl]
      unfold cnt
      rw [hfl, k4, if_neg (by omega)]
      rfl, fun q hq => by
      unfold cnt at hq
      rw [hfl, k4, if_neg (by omega)] at hq
      omega⟩
    rw [hfl, k4, ← k3] at h
    exact h
  | succ k ih =>
    intro p σ hp hpl hfl h8 h7 hT hq h
    refine am_wp_go (am_d_cm _) (fun pc => Nat.beq pc 23) 60 ?_
    refine And.intro (fun q => absurd q (by decide)) (fun _ => ?_)
    refine r_readsPart d _ (by omega) hpl hl0 hln htx h8 h7 hT.1 hT.2 (fun i σ' k0 k1 k2 k3 k4 => ?_) (fun σ' k0 k1 k2 k3 k4 k5 k6 k7 k8 k9 => ?_)
    · refine And.intro (fun _ => ?_) (fun q => absurd rfl q)
      refine am_goT (d := d + 2) (k := 126) T_X10_nobody [.ref 56] rfl rfl (fun _ => false) 30 ?_
      have h := h (am_u σ' 56 8 (Int32.ofInt 0)) (fun c e1 _ _ => by rw [am_u_ne e1, k1 c e1]) (fun i e1 e2 => by rw [am_u_at, if_neg e2, k2 i e1]) ⟨by
        rw [am_u_at, if_pos rfl]
        unfold cnt
        rw [hfl, k4, if_neg (by omega)]
        rfl, fun q hq => by
        unfold cnt at hq
        rw [hfl, k4, if_neg (by omega)] at hq
        omega⟩
      rw [hfl, k4, ← k3] at h
      exact h
    · refine And.intro (fun q => absurd q (by decide)) (fun _ => ?_)
      have t6 : σ' 56 6 = Int32.ofInt (A 0 0 : Int) := by rw [k4 6 (by decide) (by decide)]; exact hT.1
      have t61 : ∀ i, i < 40 → σ' 61 i = Int32.ofInt (A 1 i : Int) := by rw [k3 61 (by decide) (by decide) (by decide)]; exact hT.2
      have hq' : ∀ q, q < p + 1 → σ' 62 q = Int32.ofInt (mn A q : Int) ∧ σ' 63 q = Int32.ofInt (wsh A q : Int) := by
        intro q hqp
        by_cases e : q = p
        · subst e
          exact ⟨k8, k9⟩
        · rw [(k7 q e).1, (k7 q e).2]
          exact hq q (by omega)
      refine And.intro (fun c1 => ?_) (fun c1 => ?_)
      · have c1 : σ' 56 6 ≤ σ' 56 7 := c1
        rw [t6, k5, zle (by unfold zr; omega) (by unfold zr; omega)] at c1
        refine And.intro (fun _ => ?_) (fun q => absurd rfl q)
        refine And.intro (fun _ => ?_) (fun q => absurd rfl q)
        show am_wp _ _ _ (23, [.ref 56, .int (Int32.ofInt 0)], [], 0, 0) (lo_M n w3 g (am_u σ' 56 7 (σ' 56 7 + Int32.ofInt 0)) τ r1 r2)
        refine am_wp_go (am_d_cm _) (fun pc => Nat.beq pc 23) 60 ?_
        refine And.intro (fun _ => ?_) (fun q => absurd rfl q)
        have e3 : 4 * p + 3 = A 0 0 := by omega
        have ef : flt A = -1 := by
          rw [hfl, k2, e3, Nat.sub_self]
          show (if A 0 0 = 0 ∨ A 0 0 % 4 = 3 then (-1 : Int) else _) = _
          rw [if_pos (by omega)]
        have ec : cnt A = p + 1 := by
          unfold cnt
          rw [if_pos ef]
          omega
        have h := h (am_u σ' 56 7 (σ' 56 7 + Int32.ofInt 0)) (fun c e1 e2 e3 => by rw [am_u_ne e1, k3 c e1 e2 e3]) (fun i e1 e2 => by rw [am_u_at, if_neg e1, k4 i e1 e2]) ⟨by
          rw [am_u_at, if_neg (by decide), ec]
          exact k6, fun q hqp => hq' q (by omega)⟩
        rw [ef] at h
        exact h
      · have c1 : ¬ σ' 56 6 ≤ σ' 56 7 := c1
        rw [t6, k5, zle (by unfold zr; omega) (by unfold zr; omega)] at c1
        refine And.intro (fun q => absurd q (by decide)) (fun _ => ?_)
        have b3 := htx (4 * p + 3)
        refine r_here (d + 2) _ (i := 4 * p + 3) (ln := A 0 0) (tx := A 1) (by omega) hln k5 t6 t61 (fun c2 => ?_) (fun c2 => by omega)
        have m3 : (4 * p + 3) % 4 = 3 := by omega
        refine And.intro (fun c3 => ?_) (fun c3 => ?_)
        · rw [zeq (by unfold zr; omega) (by unfold zr; omega)] at c3
          refine And.intro (fun q => absurd q (by decide)) (fun _ => ?_)
          show am_wp _ _ _ (23, [.ref 56, .int (Int32.ofInt 1)], [], 0, 0) (lo_M n w3 g (am_u σ' 56 7 (σ' 56 7 + Int32.ofInt 1)) τ r1 r2)
          refine ih (p + 1) _ (by omega) (by omega) ?_ ?_ ?_ ⟨?_, t61⟩ hq' (fun σ2 m1 m2 m3 => h σ2 (fun c e1 e2 e3 => by rw [m1 c e1 e2 e3, am_u_ne e1, k3 c e1 e2 e3]) (fun i e1 e2 => by rw [m2 i e1 e2, am_u_at, if_neg e1, k4 i e1 e2]) m3)
          · rw [hfl, k2, flz_go (i := 4 * p + 3) (by omega) (by omega) (by rw [m3, show A 1 (4 * p + 3) = 59 by omega]; rfl), show 4 * (p + 1) = 4 * p + 3 + 1 by omega]
          · rw [am_u_at, if_neg (by decide)]
            exact k6
          · rw [am_u_at, if_pos rfl, k5, zadd]
            congr 1
          · rw [am_u_at, if_neg (by decide)]
            exact t6
        · rw [zeq (by unfold zr; omega) (by unfold zr; omega)] at c3
          have e4 : flz (A 1) (A 0 0) (A 0 0 - 4 * p) (4 * p) = ((4 * p + 3 : Nat) : Int) := by
            rw [k2]
            refine flz_stop (by omega) (fun _ => Or.inr ?_) (fun e => by omega)
            rw [m3]
            show Nat.beq (A 1 (4 * p + 3)) 59 = false
            cases e : Nat.beq (A 1 (4 * p + 3)) 59 with
            | true =>
              have := Nat.eq_of_beq_eq_true e
              omega
            | false => rfl
          refine am_goT (d := d + 2) (k := 126) T_X10_nobody [.ref 56] rfl rfl (fun _ => false) 30 ?_
          have h := h (am_u σ' 56 8 (Int32.ofInt 0)) (fun c e1 e2 e3 => by rw [am_u_ne e1, k3 c e1 e2 e3]) (fun i e1 e2 => by rw [am_u_at, if_neg e2, k4 i e1 e2]) ⟨by
            rw [am_u_at, if_pos rfl]
            unfold cnt
            rw [hfl, e4, if_neg (by omega)]
            rfl, fun q hq => by
            unfold cnt at hq
            rw [hfl, e4, if_neg (by omega)] at hq
            omega⟩
          rw [hfl, e4, ← k5] at h
          exact h
set_option maxRecDepth 100000 in
theorem r_reads (d : Nat) (Q : am_Q) (hwf : WF A B) (hT : rT A σ) (h : ∀ σ' : Nat → Nat → Int32, (∀ c, c ≠ 56 → c ≠ 62 → c ≠ 63 → σ' c = σ c) → (∀ i, i ≠ 7 → i ≠ 8 → σ' 56 i = σ 56 i) → RD A σ' → Q (some (.int (Int32.ofInt (flt A)))) (lo_M n w3 g σ' τ r1 r2)) : am_d (d + 4) 129 [.ref 56] 0 0 (lo_M n w3 g σ τ r1 r2) Q := by
  have h40 := hwf.1
  have fr1 : ∀ c, c ≠ 56 → am_u (am_u σ 56 7 (Int32.ofInt 0)) 56 8 (Int32.ofInt 0) c = σ c := fun c e => by rw [am_u_ne e, am_u_ne e]
  have fr2 : ∀ i, i ≠ 7 → i ≠ 8 → am_u (am_u σ 56 7 (Int32.ofInt 0)) 56 8 (Int32.ofInt 0) 56 i = σ 56 i := fun i e1 e2 => by rw [am_u_at, if_neg e2, am_u_at, if_neg e1]
  refine am_goT T_X10_reads [.ref 56, .null] rfl rfl (fun pc => Nat.beq pc 23) 60 ?_
  refine And.intro (fun c1 => ?_) (fun c1 => ?_)
  · have c1 : σ 56 6 ≤ 0 := c1
    rw [hT.1, zle0 (by unfold zr; omega)] at c1
    show am_wp _ _ _ (23, [.ref 56, .int (Int32.ofInt 0)], [], 0, 0) (lo_M n w3 g (am_u (am_u σ 56 7 (Int32.ofInt 0)) 56 8 (Int32.ofInt 0)) τ r1 r2)
    refine am_wp_go (am_d_cm _) (fun pc => Nat.beq pc 23) 60 ?_
    refine And.intro (fun _ => ?_) (fun q => absurd rfl q)
    have e0 : A 0 0 = 0 := by omega
    have ef : flt A = -1 := by
      unfold flt
      rw [e0]
      rfl
    have ec : cnt A = 0 := by
      unfold cnt
      rw [if_pos ef, e0]
    have h := h _ (fun c e _ _ => fr1 c e) fr2 ⟨by rw [am_u_at, if_pos rfl, ec]; rfl, fun q hq => by omega⟩
    rw [ef] at h
    exact h
  · have c1 : ¬ σ 56 6 ≤ 0 := c1
    rw [hT.1, zle0 (by unfold zr; omega)] at c1
    refine r_reads_loop d Q h40 (by omega) hwf.2.1 7 0 (am_u (am_u σ 56 7 (Int32.ofInt 0)) 56 8 (Int32.ofInt 0)) (by omega) (by omega) rfl (by rw [am_u_at, if_pos rfl]; rfl) (by rw [am_u_at, if_neg (by decide), am_u_at, if_pos rfl]; rfl) ⟨by rw [fr2 6 (by decide) (by decide)]; exact hT.1, by rw [fr1 61 (by decide)]; exact hT.2⟩ (fun q hq => by omega) (fun σ' k1 k2 k3 => h σ' (fun c e1 e2 e3 => by rw [k1 c e1 e2 e3, fr1 c e1]) (fun i e1 e2 => by rw [k2 i e1 e2, fr2 i e1 e2]) k3)
set_option maxRecDepth 100000 in
theorem r_fault (d : Nat) (Q : am_Q) (hwf : WF A B) (hT : rT A σ) (h : ∀ σ' : Nat → Nat → Int32, (∀ c, c ≠ 56 → c ≠ 62 → c ≠ 63 → σ' c = σ c) → (∀ i, i ≠ 7 → i ≠ 8 → σ' 56 i = σ 56 i) → RD A σ' → Q (some (.int (Int32.ofInt (flt A)))) (lo_M n w3 g σ' τ r1 r2)) : am_d (d + 5) 130 [.ref 56] 0 0 (lo_M n w3 g σ τ r1 r2) Q := by
  refine am_goT T_X10_fault [.ref 56] rfl rfl (fun _ => false) 60 ?_
  exact r_reads d _ hwf hT (fun σ' k1 k2 k3 => h σ' k1 k2 k3)
set_option maxRecDepth 100000 in
theorem r_isPerson (d : Nat) (Q : am_Q) {z : Int} (hz : zr z) (hwf : WF A B) (hT : rT A σ) (h : ∀ σ' : Nat → Nat → Int32, (∀ c, c ≠ 56 → c ≠ 62 → c ≠ 63 → σ' c = σ c) → (∀ i, i ≠ 7 → i ≠ 8 → σ' 56 i = σ 56 i) → RD A σ' → Q (some (.int (if 0 ≤ z ∧ z < cnt A then 1 else 0))) (lo_M n w3 g σ' τ r1 r2)) : am_d (d + 5) 131 [.ref 56, .int (Int32.ofInt z)] 0 0 (lo_M n w3 g σ τ r1 r2) Q := by
  have hc := cnt_le A
  refine am_goT T_X10_isPerson [.ref 56, .int (Int32.ofInt z)] rfl rfl (fun _ => false) 60 ?_
  refine r_reads d _ hwf hT (fun σ' k1 k2 k3 => ?_)
  show am_d (d + 4) 109 [.long (Int32.ofInt z).toInt64, .long (Int64.ofInt 0), .long (σ' 56 8 - Int32.ofInt 1).toInt64] 0 0 _ _
  rw [k3.1, zsub]
  refine r_inI (d + 3) (lo := 0) hz (by unfold zr; omega) (by unfold zr; omega) _ _ ?_
  have h := h σ' k1 k2 k3
  by_cases c : 0 ≤ z ∧ z < cnt A
  · rw [if_pos c] at h
    rw [if_pos (by omega)]
    exact And.intro (Or.inr rfl) h
  · rw [if_neg c] at h
    rw [if_neg (by omega)]
    exact And.intro (Or.inl rfl) h
end RP
end
section
/-! the reference: what is told -/
/-- nothing told has changed -/
def QF (σ σ' : Nat → Nat → Int32) : Prop := (∀ c, c < 56 ∨ 77 ≤ c → σ' c = σ c) ∧ (∀ c, 57 ≤ c → c < 77 → ¬ rscr c → σ' c = σ c) ∧ ∀ i, i = 4 ∨ i = 6 ∨ i = 19 ∨ i = 27 → σ' 56 i = σ 56 i
theorem QF_refl (σ : Nat → Nat → Int32) : QF σ σ := ⟨fun _ _ => rfl, fun _ _ _ _ => rfl, fun _ _ => rfl⟩
theorem QF_trans {σ σ' σ2 : Nat → Nat → Int32} (h : QF σ σ') (k : QF σ' σ2) : QF σ σ2 := ⟨fun c e => by rw [k.1 c e, h.1 c e], fun c e1 e2 e3 => by rw [k.2.1 c e1 e2 e3, h.2.1 c e1 e2 e3], fun i e => by rw [k.2.2 i e, h.2.2 i e]⟩
theorem QF_rd {σ σ' : Nat → Nat → Int32} (k1 : ∀ c, c ≠ 56 → c ≠ 62 → c ≠ 63 → σ' c = σ c) (k2 : ∀ i, i ≠ 7 → i ≠ 8 → σ' 56 i = σ 56 i) : QF σ σ' := ⟨fun c e => k1 c (by omega) (by omega) (by omega), fun c e1 e2 e3 => k1 c (by omega) (fun q => e3 (by subst q; unfold rscr; omega)) (fun q => e3 (by subst q; unfold rscr; omega)), fun i e => k2 i (by omega) (by omega)⟩
theorem QF_68 {σ σ' : Nat → Nat → Int32} (k1 : ∀ c, c ≠ 68 → σ' c = σ c) : QF σ σ' := ⟨fun c e => k1 c (by omega), fun c e1 e2 e3 => k1 c (fun q => e3 (by subst q; unfold rscr; omega)), fun i e => by rw [k1 56 (by decide)]⟩
theorem IM_QF {A : aN} {B : aZ} {σ σ' : Nat → Nat → Int32} (h : IM A B σ) (k : QF σ σ') : IM A B σ' := IM_fr h k.2.1 k.2.2
theorem RB_rd {A : aN} {B : aZ} {σ σ' : Nat → Nat → Int32} (h : IM A B σ) (k1 : ∀ c, c ≠ 56 → c ≠ 62 → c ≠ 63 → σ' c = σ c) (k3 : RD A σ') : RB A (A 4) σ' := by
  obtain ⟨-, hR, hS, hL, hW, -⟩ := h
  refine ⟨k3, ?_, ?_, ?_, ?_⟩
  · unfold rR; rw [k1 65 (by decide) (by decide) (by decide)]; exact hR
  · unfold rS; rw [k1 66 (by decide) (by decide) (by decide)]; exact hS
  · unfold rL; rw [k1 67 (by decide) (by decide) (by decide)]; exact hL
  · unfold rW; rw [k1 64 (by decide) (by decide) (by decide)]; exact hW
def f_pOf (A : aN) (p : Nat) (y : Int) : Int := if y = 0 then (mn A p : Int) else if y = 1 then (wsh A p : Int) else if y = 2 then (gin A p (A 4 p) : Int) else (prz (A 2) (gin A p (A 4 p)) : Int) - (prz (A 2) (mn A p) : Int)
section RT
variable {n w3 : Nat} {g : Nat → Nat × Nat} {σ : Nat → Nat → Int32} {τ : Nat → Nat → Int64} {r1 r2 : Nat} {A : aN} {B : aZ}
set_option maxRecDepth 100000 in
theorem r_personOf (d : Nat) (Q : am_Q) {p : Nat} {y : Int} (hy : zr y) (hp : p < cnt A) (hwf : WF A B) (hb : RB A (A 4) σ) (h : Q (some (.int (Int32.ofInt (f_pOf A p y)))) (lo_M n w3 g σ τ r1 r2)) : am_d (d + 4) 135 [.ref 56, .int (Int32.ofInt (p : Int)), .int (Int32.ofInt y)] 0 0 (lo_M n w3 g σ τ r1 r2) Q := by
  have hc := cnt_le A
  unfold f_pOf at h
  refine am_goT T_X10_personOf [.ref 56, .int (Int32.ofInt (p : Int)), .int (Int32.ofInt y)] rfl rfl (fun _ => false) 60 ?_
  refine And.intro (fun c1 => ?_) (fun c1 => And.intro (fun c2 => ?_) (fun c2 => And.intro (fun c3 => ?_) (fun c3 => ?_)))
  · rw [zeq0 hy] at c1
    rw [if_pos c1, ← (hb.1.2 p hp).1] at h
    exact ixi p 7 (by omega) h
  · rw [zeq0 hy] at c1
    rw [zeq hy (by unfold zr; omega)] at c2
    rw [if_neg c1, if_pos c2, ← (hb.1.2 p hp).2] at h
    exact ixi p 7 (by omega) h
  · rw [zeq0 hy] at c1
    rw [zeq hy (by unfold zr; omega)] at c2 c3
    rw [if_neg c1, if_neg c2, if_pos c3] at h
    exact r_goesIn (d + 1) _ hp hwf.2.2.2.2.1 hb h
  · rw [zeq0 hy] at c1
    rw [zeq hy (by unfold zr; omega)] at c2 c3
    rw [if_neg c1, if_neg c2, if_neg c3] at h
    exact r_wet d _ hp hwf.2.2.2.2.1 hb h
set_option maxRecDepth 100000 in
theorem q_person (d : Nat) (Q : am_Q) {z y : Int} (hz : zr z) (hy : zr y) (hm : IM A B σ) (hwf : WF A B) (h : ∀ σ', QF σ σ' → Q (some (.int (Int32.ofInt (f_person A z y)))) (lo_M n w3 g σ' τ r1 r2)) : am_d (d + 6) 136 [.ref 56, .int (Int32.ofInt z), .int (Int32.ofInt y)] 0 0 (lo_M n w3 g σ τ r1 r2) Q := by
  refine am_goT T_X10_person [.ref 56, .int (Int32.ofInt z), .int (Int32.ofInt y)] rfl rfl (fun _ => false) 60 ?_
  refine r_isPerson d _ hz hwf hm.1 (fun σ' k1 k2 k3 => ?_)
  have h := h σ' (QF_rd k1 k2)
  unfold f_person at h
  by_cases c : 0 ≤ z ∧ z < cnt A
  · rw [if_pos c]
    refine And.intro (fun q => absurd q (by decide)) (fun _ => ?_)
    refine r_inZ (d + 4) (lo := 0) (hi := 3) hy (by unfold zr; omega) (by unfold zr; omega) _ _ ?_
    by_cases c2 : 0 ≤ y ∧ y ≤ 3
    · rw [if_pos ⟨c, c2⟩] at h
      rw [if_pos c2]
      refine And.intro (fun q => absurd q (by decide)) (fun _ => ?_)
      show am_d (d + 5) 135 [.ref 56, .int (Int32.ofInt z), .int (Int32.ofInt y)] 0 0 _ _
      rw [show Int32.ofInt z = Int32.ofInt (z.toNat : Int) by congr 1; omega]
      exact r_personOf (d + 1) _ hy (by omega) hwf (RB_rd hm k1 k3) h
    · rw [if_neg (fun q => c2 q.2)] at h
      rw [if_neg c2]
      exact And.intro (fun _ => h) (fun q => absurd rfl q)
  · rw [if_neg (fun q => c q.1)] at h
    rw [if_neg c]
    exact And.intro (fun _ => h) (fun q => absurd rfl q)
set_option maxRecDepth 100000 in
theorem r_waits (d : Nat) (Q : am_Q) {z y : Int} {w : Nat → Nat} (hz : zr z) (hy : zr y) (hW : rW w σ)
    (hbad : ¬ ((0 ≤ z ∧ z ≤ 6) ∧ 0 ≤ y ∧ y ≤ 59) → Q (some (.int (Int32.ofInt (-2)))) (lo_M n w3 g σ τ r1 r2))
    (hok : (0 ≤ z ∧ z ≤ 6) ∧ 0 ≤ y ∧ y ≤ 59 → Q (some (.int (Int32.ofInt (w z.toNat : Int)))) (lo_M n w3 g (am_u σ 64 z.toNat (Int32.ofInt y)) τ r1 r2)) : am_d (d + 3) 137 [.ref 56, .int (Int32.ofInt z), .int (Int32.ofInt y)] 0 0 (lo_M n w3 g σ τ r1 r2) Q := by
  refine am_goT T_X10_waits [.ref 56, .int (Int32.ofInt z), .int (Int32.ofInt y), .null] rfl rfl (fun _ => false) 60 ?_
  refine r_isSeven d hz _ _ ?_
  by_cases c : 0 ≤ z ∧ z ≤ 6
  · rw [if_pos c]
    refine And.intro (fun q => absurd q (by decide)) (fun _ => ?_)
    refine r_inZ (d + 1) (lo := 0) (hi := 59) hy (by unfold zr; omega) (by unfold zr; omega) _ _ ?_
    by_cases c2 : 0 ≤ y ∧ y ≤ 59
    · rw [if_pos c2]
      refine And.intro (fun q => absurd q (by decide)) (fun _ => ?_)
      have hok := hok ⟨c, c2⟩
      rw [← hW z.toNat (by omega)] at hok
      refine ixi z.toNat 7 (by omega) ?_ (by congr 1; omega)
      refine ixi z.toNat 7 (by omega) ?_ (by congr 1; omega)
      exact hok
    · rw [if_neg c2]
      exact And.intro (fun _ => hbad (fun q => c2 q.2)) (fun q => absurd rfl q)
  · rw [if_neg c]
    exact And.intro (fun _ => hbad (fun q => c q.1)) (fun q => absurd rfl q)
set_option maxRecDepth 100000 in
theorem r_rain (d : Nat) (Q : am_Q) {z y : Int} (hz : zr z) (hy : zr y) (hm : IM A B σ)
    (hbad : ¬ ((0 ≤ z ∧ z ≤ 59) ∧ 0 ≤ y ∧ y ≤ 1) → Q (some (.int (Int32.ofInt (-2)))) (lo_M n w3 g σ τ r1 r2))
    (hok : (0 ≤ z ∧ z ≤ 59) ∧ 0 ≤ y ∧ y ≤ 1 → Q (some (.int (Int32.ofInt (A 2 z.toNat : Int)))) (lo_M n w3 g (am_u σ 65 z.toNat (Int32.ofInt y)) τ r1 r2)) : am_d (d + 3) 138 [.ref 56, .int (Int32.ofInt z), .int (Int32.ofInt y)] 0 0 (lo_M n w3 g σ τ r1 r2) Q := by
  refine am_goT T_X10_rain [.ref 56, .int (Int32.ofInt z), .int (Int32.ofInt y), .null] rfl rfl (fun _ => false) 60 ?_
  refine r_inZ (d + 1) (lo := 0) (hi := 59) hz (by unfold zr; omega) (by unfold zr; omega) _ _ ?_
  by_cases c : 0 ≤ z ∧ z ≤ 59
  · rw [if_pos c]
    refine And.intro (fun q => absurd q (by decide)) (fun _ => ?_)
    refine r_isTwo d hy _ _ ?_
    by_cases c2 : 0 ≤ y ∧ y ≤ 1
    · rw [if_pos c2]
      refine And.intro (fun q => absurd q (by decide)) (fun _ => ?_)
      have hok := hok ⟨c, c2⟩
      rw [← hm.2.1 z.toNat (by omega)] at hok
      refine ixi z.toNat 60 (by omega) ?_ (by congr 1; omega)
      refine ixi z.toNat 60 (by omega) ?_ (by congr 1; omega)
      exact hok
    · rw [if_neg c2]
      exact And.intro (fun _ => hbad (fun q => c2 q.2)) (fun q => absurd rfl q)
  · rw [if_neg c]
    exact And.intro (fun _ => hbad (fun q => c q.1)) (fun q => absurd rfl q)
theorem leastS_eq (i : Nat) (h : i < 6) : leastS i = if i = 2 ∨ i = 5 then 1 else 0 := by
  have : ∀ i : Nat, i < 6 → leastS i = if i = 2 ∨ i = 5 then 1 else 0 := by decide
  exact this i h
theorem mostS_eq (i : Nat) (h : i < 6) : mostS i = if i = 0 then 60 else if i = 1 then 1 else if i = 2 then 4 else if i = 5 then 15 else 9 := by
  have : ∀ i : Nat, i < 6 → mostS i = if i = 0 then 60 else if i = 1 then 1 else if i = 2 then 4 else if i = 5 then 15 else 9 := by decide
  exact this i h
set_option maxRecDepth 100000 in
theorem r_lowOf (d : Nat) {i : Nat} (hi : i < 6) (M : am_M) (Q : am_Q) (h : Q (some (.int (Int32.ofInt (leastS i)))) M) : am_d (d + 1) 139 [.int (Int32.ofInt (i : Int))] 0 0 M Q := by
  rw [leastS_eq i hi] at h
  refine am_goT T_X10_lowOf [.int (Int32.ofInt (i : Int))] rfl rfl (fun _ => false) 60 ?_
  refine And.intro (fun c1 => ?_) (fun c1 => And.intro (fun c2 => ?_) (fun c2 => ?_))
  · rw [zeq (by unfold zr; omega) (by unfold zr; omega)] at c1
    rw [if_pos (by omega)] at h
    exact h
  · rw [zeq (by unfold zr; omega) (by unfold zr; omega)] at c1 c2
    rw [if_pos (by omega)] at h
    exact h
  · rw [zeq (by unfold zr; omega) (by unfold zr; omega)] at c1 c2
    rw [if_neg (by omega)] at h
    exact h
set_option maxRecDepth 100000 in
theorem r_highOf (d : Nat) {i : Nat} (hi : i < 6) (M : am_M) (Q : am_Q) (h : Q (some (.int (Int32.ofInt (mostS i)))) M) : am_d (d + 1) 140 [.int (Int32.ofInt (i : Int))] 0 0 M Q := by
  rw [mostS_eq i hi] at h
  refine am_goT T_X10_highOf [.int (Int32.ofInt (i : Int))] rfl rfl (fun _ => false) 60 ?_
  refine And.intro (fun c1 => ?_) (fun c1 => And.intro (fun c2 => ?_) (fun c2 => And.intro (fun c3 => ?_) (fun c3 => And.intro (fun c4 => ?_) (fun c4 => ?_))))
  · rw [zeq0 (by unfold zr; omega)] at c1
    rw [if_pos (by omega)] at h
    exact h
  · rw [zeq0 (by unfold zr; omega)] at c1
    rw [zeq (by unfold zr; omega) (by unfold zr; omega)] at c2
    rw [if_neg (by omega), if_pos (by omega)] at h
    exact h
  · rw [zeq0 (by unfold zr; omega)] at c1
    rw [zeq (by unfold zr; omega) (by unfold zr; omega)] at c2 c3
    rw [if_neg (by omega), if_neg (by omega), if_pos (by omega)] at h
    exact h
  · rw [zeq0 (by unfold zr; omega)] at c1
    rw [zeq (by unfold zr; omega) (by unfold zr; omega)] at c2 c3 c4
    rw [if_neg (by omega), if_neg (by omega), if_neg (by omega), if_pos (by omega)] at h
    exact h
  · rw [zeq0 (by unfold zr; omega)] at c1
    rw [zeq (by unfold zr; omega) (by unfold zr; omega)] at c2 c3 c4
    rw [if_neg (by omega), if_neg (by omega), if_neg (by omega), if_neg (by omega)] at h
    exact h
theorem lm_rng {i : Nat} (hi : i < 6) : 0 ≤ leastS i ∧ leastS i ≤ 100 ∧ 0 ≤ mostS i ∧ mostS i ≤ 100 := by
  have : ∀ i : Nat, i < 6 → 0 ≤ leastS i ∧ leastS i ≤ 100 ∧ 0 ≤ mostS i ∧ mostS i ≤ 100 := by decide
  exact this i hi
set_option maxRecDepth 100000 in
theorem r_set (d : Nat) (Q : am_Q) {z y : Int} (hz : zr z) (hy : zr y) (hm : IM A B σ)
    (hbad : ¬ ((0 ≤ z ∧ z ≤ 5) ∧ leastS z.toNat ≤ y ∧ y ≤ mostS z.toNat) → Q (some (.int (Int32.ofInt (-2)))) (lo_M n w3 g σ τ r1 r2))
    (hok : (0 ≤ z ∧ z ≤ 5) ∧ leastS z.toNat ≤ y ∧ y ≤ mostS z.toNat → Q (some (.int (Int32.ofInt (A 3 z.toNat : Int)))) (lo_M n w3 g (am_u σ 66 z.toNat (Int32.ofInt y)) τ r1 r2)) : am_d (d + 3) 141 [.ref 56, .int (Int32.ofInt z), .int (Int32.ofInt y)] 0 0 (lo_M n w3 g σ τ r1 r2) Q := by
  refine am_goT T_X10_set [.ref 56, .int (Int32.ofInt z), .int (Int32.ofInt y), .null] rfl rfl (fun _ => false) 60 ?_
  refine r_inZ (d + 1) (lo := 0) (hi := 5) hz (by unfold zr; omega) (by unfold zr; omega) _ _ ?_
  by_cases c : 0 ≤ z ∧ z ≤ 5
  · rw [if_pos c]
    refine And.intro (fun q => absurd q (by decide)) (fun _ => ?_)
    have ez : Int32.ofInt z = Int32.ofInt (z.toNat : Int) := by congr 1; omega
    have hi : z.toNat < 6 := by omega
    have lm := lm_rng hi
    show am_d (d + 2) 139 [.int (Int32.ofInt z)] 0 0 _ _
    rw [ez]
    refine r_lowOf (d + 1) hi _ _ ?_
    refine r_highOf (d + 1) hi _ _ ?_
    show am_d (d + 2) 109 [.long (Int32.ofInt y).toInt64, .long (Int32.ofInt (leastS z.toNat)).toInt64, .long (Int32.ofInt (mostS z.toNat)).toInt64] 0 0 _ _
    rw [yofz (a := leastS z.toNat) (by unfold zr; omega)]
    refine r_inI (d + 1) hy (by unfold zr; omega) (by unfold zr; omega) _ _ ?_
    by_cases c2 : leastS z.toNat ≤ y ∧ y ≤ mostS z.toNat
    · rw [if_pos c2]
      refine And.intro (fun q => absurd q (by decide)) (fun _ => ?_)
      have hok := hok ⟨c, c2⟩
      rw [← hm.2.2.1 z.toNat (by omega)] at hok
      refine ixi z.toNat 6 (by omega) ?_
      refine ixi z.toNat 6 (by omega) ?_
      exact hok
    · rw [if_neg c2]
      exact And.intro (fun _ => hbad (fun q => c2 q.2)) (fun q => absurd rfl q)
  · rw [if_neg c]
    exact And.intro (fun _ => hbad (fun q => c q.1)) (fun q => absurd rfl q)
set_option maxHeartbeats 1000000 in
set_option maxRecDepth 100000 in
theorem r_love (d : Nat) (Q : am_Q) {z y v : Int} (hz : zr z) (hy : zr y) (hv : zr v) (hm : IM A B σ)
    (hbad : ¬ ((0 ≤ z ∧ z ≤ 6) ∧ (0 ≤ y ∧ y ≤ 6) ∧ z ≠ y ∧ 0 ≤ v ∧ v ≤ 20) → Q (some (.int (Int32.ofInt (-2)))) (lo_M n w3 g σ τ r1 r2))
    (hok : (0 ≤ z ∧ z ≤ 6) ∧ (0 ≤ y ∧ y ≤ 6) ∧ z ≠ y ∧ 0 ≤ v ∧ v ≤ 20 → Q (some (.int (Int32.ofInt (A (20 + z.toNat) y.toNat : Int)))) (lo_M n w3 g (am_u (am_u σ 67 (7 * z.toNat + y.toNat) (Int32.ofInt v)) 67 (7 * y.toNat + z.toNat) (Int32.ofInt v)) τ r1 r2)) : am_d (d + 3) 142 [.ref 56, .int (Int32.ofInt z), .int (Int32.ofInt y), .int (Int32.ofInt v)] 0 0 (lo_M n w3 g σ τ r1 r2) Q := by
  refine am_goT T_X10_love [.ref 56, .int (Int32.ofInt z), .int (Int32.ofInt y), .int (Int32.ofInt v), .null] rfl rfl (fun _ => false) 80 ?_
  refine r_isSeven d hz _ _ ?_
  by_cases c : 0 ≤ z ∧ z ≤ 6
  · rw [if_pos c]
    refine And.intro (fun q => absurd q (by decide)) (fun _ => ?_)
    refine r_isSeven d hy _ _ ?_
    by_cases c2 : 0 ≤ y ∧ y ≤ 6
    · rw [if_pos c2]
      refine And.intro (fun q => absurd q (by decide)) (fun _ => ?_)
      refine And.intro (fun c3 => ?_) (fun c3 => ?_)
      · rw [zeq hz hy] at c3
        exact hbad (fun q => q.2.2.1 c3)
      · rw [zeq hz hy] at c3
        refine r_inZ (d + 1) (lo := 0) (hi := 20) hv (by unfold zr; omega) (by unfold zr; omega) _ _ ?_
        by_cases c4 : 0 ≤ v ∧ v ≤ 20
        · rw [if_pos c4]
          refine And.intro (fun q => absurd q (by decide)) (fun _ => ?_)
          have hok := hok ⟨c, c2, c3, c4⟩
          rw [← hm.2.2.2.1 z.toNat (by omega) y.toNat (by omega)] at hok
          refine ixi (7 * z.toNat + y.toNat) 49 (by omega) ?_ (by rw [zmul, zadd]; congr 1; omega)
          refine ixi (7 * z.toNat + y.toNat) 49 (by omega) ?_ (by rw [zmul, zadd]; congr 1; omega)
          refine ixi (7 * y.toNat + z.toNat) 49 (by omega) ?_ (by rw [zmul, zadd]; congr 1; omega)
          exact hok
        · rw [if_neg c4]
          exact And.intro (fun _ => hbad (fun q => c4 q.2.2.2)) (fun q => absurd rfl q)
    · rw [if_neg c2]
      exact And.intro (fun _ => hbad (fun q => c2 q.2.1)) (fun q => absurd rfl q)
  · rw [if_neg c]
    exact And.intro (fun _ => hbad (fun q => c q.1)) (fun q => absurd rfl q)
set_option maxRecDepth 100000 in
theorem r_type (d : Nat) (Q : am_Q) {z : Int} (hz : zr z) (hm : IM A B σ) (hwf : WF A B)
    (hbad : ¬ (0 ≤ z ∧ z ≤ 255) → Q (some (.int (Int32.ofInt (-2)))) (lo_M n w3 g σ τ r1 r2))
    (hfull : (0 ≤ z ∧ z ≤ 255) → 40 ≤ A 0 0 → Q (some (.int (Int32.ofInt (-4)))) (lo_M n w3 g σ τ r1 r2))
    (hok : (0 ≤ z ∧ z ≤ 255) → A 0 0 < 40 → Q (some (.int (Int32.ofInt ((A 0 0 + 1 : Nat) : Int)))) (lo_M n w3 g (am_u (am_u σ 61 (A 0 0) (Int32.ofInt z)) 56 6 (Int32.ofInt ((A 0 0 + 1 : Nat) : Int))) τ r1 r2)) : am_d (d + 2) 123 [.ref 56, .int (Int32.ofInt z)] 0 0 (lo_M n w3 g σ τ r1 r2) Q := by
  have h40 := hwf.1
  have t1 := hm.1.1
  refine am_goT T_X10_type [.ref 56, .int (Int32.ofInt z)] rfl rfl (fun _ => false) 60 ?_
  refine r_inZ d (lo := 0) (hi := 255) hz (by unfold zr; omega) (by unfold zr; omega) _ _ ?_
  by_cases c : 0 ≤ z ∧ z ≤ 255
  · rw [if_pos c]
    refine And.intro (fun q => absurd q (by decide)) (fun _ => ?_)
    refine And.intro (fun c1 => ?_) (fun c1 => ?_)
    · have c1 : σ 56 6 = Int32.ofInt 40 := c1
      rw [t1, zeq (by unfold zr; omega) (by unfold zr; omega)] at c1
      exact hfull c (by omega)
    · have c1 : ¬ σ 56 6 = Int32.ofInt 40 := c1
      rw [t1, zeq (by unfold zr; omega) (by unfold zr; omega)] at c1
      have hok := hok c (by omega)
      rw [show ((A 0 0 + 1 : Nat) : Int) = (A 0 0 : Int) + 1 by omega, ← zadd, ← t1] at hok
      refine ixi (A 0 0) 40 (by omega) ?_ t1
      exact hok
  · rw [if_neg c]
    exact And.intro (fun _ => hbad c) (fun q => absurd rfl q)
set_option maxRecDepth 100000 in
theorem r_wipe (d : Nat) (Q : am_Q) (hm : IM A B σ) (h : Q (some (.int (Int32.ofInt (A 0 0 : Int)))) (lo_M n w3 g (am_u σ 56 6 (Int32.ofInt 0)) τ r1 r2)) : am_d (d + 1) 124 [.ref 56] 0 0 (lo_M n w3 g σ τ r1 r2) Q := by
  rw [← hm.1.1] at h
  exact am_goT T_X10_wipe [.ref 56, .null] rfl rfl (fun _ => false) 60 h
set_option maxRecDepth 100000 in
theorem r_forget (d : Nat) (Q : am_Q) (hm : IM A B σ) (h : Q (some (.int (Int32.ofInt (A 0 1 : Int)))) (lo_M n w3 g (am_u σ 56 19 (Int32.ofInt 0)) τ r1 r2)) : am_d (d + 1) 172 [.ref 56] 0 0 (lo_M n w3 g σ τ r1 r2) Q := by
  rw [← hm.2.2.2.2.2.1.1] at h
  exact am_goT T_X10_forget [.ref 56, .null] rfl rfl (fun _ => false) 60 h
def tlM (σ : Nat → Nat → Int32) (f : Nat) (k a b : Int32) : Nat → Nat → Int32 := am_u (am_u (am_u (am_u σ 70 (3 * f) k) 70 (3 * f + 1) a) 70 (3 * f + 2) b) 56 19 (Int32.ofInt ((f + 1 : Nat) : Int))
set_option maxRecDepth 100000 in
theorem r_tells (d : Nat) (Q : am_Q) {k a b : Int32} (hm : IM A B σ) (hwf : WF A B)
    (hfull : A 0 1 = 8 → Q (some (.int (Int32.ofInt (-4)))) (lo_M n w3 g σ τ r1 r2))
    (hok : A 0 1 < 8 → Q (some (.int (Int32.ofInt ((A 0 1 + 1 : Nat) : Int)))) (lo_M n w3 g (tlM σ (A 0 1) k a b) τ r1 r2)) : am_d (d + 1) 169 [.ref 56, .int k, .int a, .int b] 0 0 (lo_M n w3 g σ τ r1 r2) Q := by
  have h8 := hwf.2.2.2.2.2.2.2.1
  have t1 := hm.2.2.2.2.2.1.1
  refine am_goT T_X10_tells [.ref 56, .int k, .int a, .int b] rfl rfl (fun _ => false) 80 ?_
  refine And.intro (fun c1 => ?_) (fun c1 => ?_)
  · have c1 : σ 56 19 = Int32.ofInt 8 := c1
    rw [t1, zeq (by unfold zr; omega) (by unfold zr; omega)] at c1
    exact hfull (by omega)
  · have c1 : ¬ σ 56 19 = Int32.ofInt 8 := c1
    rw [t1, zeq (by unfold zr; omega) (by unfold zr; omega)] at c1
    have hok := hok (by omega)
    unfold tlM at hok
    rw [show ((A 0 1 + 1 : Nat) : Int) = (A 0 1 : Int) + 1 by omega, ← zadd, ← t1] at hok
    have e0 : Int32.ofInt 3 * σ 56 19 = Int32.ofInt ((3 * A 0 1 : Nat) : Int) := by
      rw [t1, zmul]
      congr 1
    refine ixi (3 * A 0 1) 24 (by omega) ?_ e0
    refine ixi (3 * A 0 1 + 1) 24 (by omega) ?_ (by
      show Int32.ofInt 3 * σ 56 19 + Int32.ofInt 1 = _
      rw [e0, zadd]
      congr 1)
    refine ixi (3 * A 0 1 + 2) 24 (by omega) ?_ (by
      show Int32.ofInt 3 * σ 56 19 + Int32.ofInt 2 = _
      rw [e0, zadd]
      congr 1)
    exact hok
set_option maxRecDepth 100000 in
theorem r_sat (d : Nat) (Q : am_Q) {z y : Int} (hz : zr z) (hy : zr y) (hm : IM A B σ) (hwf : WF A B)
    (hbad : ¬ ((0 ≤ z ∧ z ≤ 6) ∧ 0 ≤ y ∧ y ≤ 6) → Q (some (.int (Int32.ofInt (-2)))) (lo_M n w3 g σ τ r1 r2))
    (hfull : (0 ≤ z ∧ z ≤ 6) ∧ 0 ≤ y ∧ y ≤ 6 → A 0 1 = 8 → Q (some (.int (Int32.ofInt (-4)))) (lo_M n w3 g σ τ r1 r2))
    (hok : (0 ≤ z ∧ z ≤ 6) ∧ 0 ≤ y ∧ y ≤ 6 → A 0 1 < 8 → Q (some (.int (Int32.ofInt ((A 0 1 + 1 : Nat) : Int)))) (lo_M n w3 g (tlM σ (A 0 1) (Int32.ofInt 0) (Int32.ofInt z) (Int32.ofInt y)) τ r1 r2)) : am_d (d + 3) 170 [.ref 56, .int (Int32.ofInt z), .int (Int32.ofInt y)] 0 0 (lo_M n w3 g σ τ r1 r2) Q := by
  refine am_goT T_X10_sat [.ref 56, .int (Int32.ofInt z), .int (Int32.ofInt y)] rfl rfl (fun _ => false) 60 ?_
  refine r_isSeven d hz _ _ ?_
  by_cases c : 0 ≤ z ∧ z ≤ 6
  · rw [if_pos c]
    refine And.intro (fun q => absurd q (by decide)) (fun _ => ?_)
    refine r_isSeven d hy _ _ ?_
    by_cases c2 : 0 ≤ y ∧ y ≤ 6
    · rw [if_pos c2]
      refine And.intro (fun q => absurd q (by decide)) (fun _ => ?_)
      exact r_tells (d + 1) _ hm hwf (fun e => hfull ⟨c, c2⟩ e) (fun e => hok ⟨c, c2⟩ e)
    · rw [if_neg c2]
      exact And.intro (fun _ => hbad (fun q => c2 q.2)) (fun q => absurd rfl q)
  · rw [if_neg c]
    exact And.intro (fun _ => hbad (fun q => c q.1)) (fun q => absurd rfl q)
set_option maxRecDepth 100000 in
theorem r_front (d : Nat) (Q : am_Q) {z y : Int} (hz : zr z) (hy : zr y) (hm : IM A B σ) (hwf : WF A B)
    (hbad : ¬ ((0 ≤ z ∧ z ≤ 6) ∧ (0 ≤ y ∧ y ≤ 6) ∧ z ≠ y) → Q (some (.int (Int32.ofInt (-2)))) (lo_M n w3 g σ τ r1 r2))
    (hfull : (0 ≤ z ∧ z ≤ 6) ∧ (0 ≤ y ∧ y ≤ 6) ∧ z ≠ y → A 0 1 = 8 → Q (some (.int (Int32.ofInt (-4)))) (lo_M n w3 g σ τ r1 r2))
    (hok : (0 ≤ z ∧ z ≤ 6) ∧ (0 ≤ y ∧ y ≤ 6) ∧ z ≠ y → A 0 1 < 8 → Q (some (.int (Int32.ofInt ((A 0 1 + 1 : Nat) : Int)))) (lo_M n w3 g (tlM σ (A 0 1) (Int32.ofInt 1) (Int32.ofInt z) (Int32.ofInt y)) τ r1 r2)) : am_d (d + 3) 171 [.ref 56, .int (Int32.ofInt z), .int (Int32.ofInt y)] 0 0 (lo_M n w3 g σ τ r1 r2) Q := by
  refine am_goT T_X10_front [.ref 56, .int (Int32.ofInt z), .int (Int32.ofInt y)] rfl rfl (fun _ => false) 60 ?_
  refine r_isSeven d hz _ _ ?_
  by_cases c : 0 ≤ z ∧ z ≤ 6
  · rw [if_pos c]
    refine And.intro (fun q => absurd q (by decide)) (fun _ => ?_)
    refine r_isSeven d hy _ _ ?_
    by_cases c2 : 0 ≤ y ∧ y ≤ 6
    · rw [if_pos c2]
      refine And.intro (fun q => absurd q (by decide)) (fun _ => ?_)
      refine And.intro (fun c3 => ?_) (fun c3 => ?_)
      · rw [zeq hz hy] at c3
        exact hbad (fun q => q.2.2 c3)
      · rw [zeq hz hy] at c3
        exact r_tells (d + 1) _ hm hwf (fun e => hfull ⟨c, c2, c3⟩ e) (fun e => hok ⟨c, c2, c3⟩ e)
    · rw [if_neg c2]
      exact And.intro (fun _ => hbad (fun q => c2 q.2.1)) (fun q => absurd rfl q)
  · rw [if_neg c]
    exact And.intro (fun _ => hbad (fun q => c q.1)) (fun q => absurd rfl q)
def rsM (σ : Nat → Nat → Int32) (p : Nat) (y : Int32) : Nat → Nat → Int32 := am_u (am_u (am_u σ 56 27 (σ 56 27 + Int32.ofInt 1)) 75 p (σ 75 p + Int32.ofInt 1)) 76 p (σ 76 p + y)
set_option maxRecDepth 100000 in
theorem r_sunday (d : Nat) (Q : am_Q) {z y : Int} (hz : zr z) (hy : zr y) (hm : IM A B σ) (hwf : WF A B)
    (hbad : ¬ ((0 ≤ z ∧ z ≤ 6) ∧ 0 ≤ y ∧ y ≤ 1) → Q (some (.int (Int32.ofInt (-2)))) (lo_M n w3 g σ τ r1 r2))
    (hfull : (0 ≤ z ∧ z ≤ 6) ∧ 0 ≤ y ∧ y ≤ 1 → A 0 2 = 60 → Q (some (.int (Int32.ofInt (-4)))) (lo_M n w3 g σ τ r1 r2))
    (hok : (0 ≤ z ∧ z ≤ 6) ∧ 0 ≤ y ∧ y ≤ 1 → A 0 2 < 60 → Q (some (.int (Int32.ofInt ((A 8 z.toNat + 1 : Nat) : Int)))) (lo_M n w3 g (rsM σ z.toNat (Int32.ofInt y)) τ r1 r2)) : am_d (d + 3) 187 [.ref 56, .int (Int32.ofInt z), .int (Int32.ofInt y)] 0 0 (lo_M n w3 g σ τ r1 r2) Q := by
  have h60 : A 0 2 ≤ 60 := hwf.2.2.2.2.2.2.2.2.2.1
  have t1 := hm.2.2.2.2.2.2.1.1
  refine am_goT T_X10_sunday [.ref 56, .int (Int32.ofInt z), .int (Int32.ofInt y)] rfl rfl (fun _ => false) 80 ?_
  refine r_isSeven d hz _ _ ?_
  by_cases c : 0 ≤ z ∧ z ≤ 6
  · rw [if_pos c]
    refine And.intro (fun q => absurd q (by decide)) (fun _ => ?_)
    refine r_isTwo d hy _ _ ?_
    by_cases c2 : 0 ≤ y ∧ y ≤ 1
    · rw [if_pos c2]
      refine And.intro (fun q => absurd q (by decide)) (fun _ => ?_)
      refine And.intro (fun c1 => ?_) (fun c1 => ?_)
      · have c1 : σ 56 27 = Int32.ofInt 60 := c1
        rw [t1, zeq (by unfold zr; omega) (by unfold zr; omega)] at c1
        exact hfull ⟨c, c2⟩ (by omega)
      · have c1 : ¬ σ 56 27 = Int32.ofInt 60 := c1
        rw [t1, zeq (by unfold zr; omega) (by unfold zr; omega)] at c1
        have hok := hok ⟨c, c2⟩ (by omega)
        have t2 := (hm.2.2.2.2.2.2.1.2 z.toNat (by omega)).1
        have ez : Int32.ofInt z = Int32.ofInt (z.toNat : Int) := by congr 1; omega
        refine ixi z.toNat 7 (by omega) ?_ ez
        refine ixi z.toNat 7 (by omega) ?_ ez
        refine ixi z.toNat 7 (by omega) ?_ ez
        refine ixi z.toNat 7 (by omega) ?_ ez
        refine ixi z.toNat 7 (by omega) ?_ ez
        show Q (some (.int (rsM σ z.toNat (Int32.ofInt y) 75 z.toNat))) (lo_M n w3 g (rsM σ z.toNat (Int32.ofInt y)) τ r1 r2)
        rw [show rsM σ z.toNat (Int32.ofInt y) 75 z.toNat = Int32.ofInt ((A 8 z.toNat + 1 : Nat) : Int) by
          unfold rsM
          rw [am_u_ne (by decide), am_u_at, if_pos rfl, t2, zadd]
          congr 1]
        exact hok
    · rw [if_neg c2]
      exact And.intro (fun _ => hbad (fun q => c2 q.2)) (fun q => absurd rfl q)
  · rw [if_neg c]
    exact And.intro (fun _ => hbad (fun q => c q.1)) (fun q => absurd rfl q)
end RT
end
