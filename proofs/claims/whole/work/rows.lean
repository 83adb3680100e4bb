section
-- ===== PART A: goes FIRST, ahead of the names: the tables' words, and 'selects' of the private methods out of them =====
/-- a private method of a class that the tables say can be made, by its rows of tables_1 -/
def lw_okq (q : MethodName × Nat) : Prop := (q.1.cls ≠ "java/lang/invoke/MethodHandle" ∧ q.1.cls ≠ "java/lang/invoke/VarHandle") ∧ Cond.instantiable q.1.cls q.2 ∈ tables_1 ∧ Cond.privateMethod q.1 ∈ tables_1 ∧ Cond.instanceMethod q.1 ∈ tables_1
theorem lw_p0 : lw_okq (⟨"OwedFalls$Reader", "nextToken", "()V"⟩, 6) := ⟨⟨by decide +kernel, by decide +kernel⟩, List.mem_of_getElem? (i := 23) (by decide +kernel), List.mem_of_getElem? (i := 325) (by decide +kernel), List.mem_of_getElem? (i := 326) (by decide +kernel)⟩
theorem lw_p1 : lw_okq (⟨"OwedFalls$Reader", "takeWord", "()V"⟩, 6) := ⟨⟨by decide +kernel, by decide +kernel⟩, List.mem_of_getElem? (i := 23) (by decide +kernel), List.mem_of_getElem? (i := 332) (by decide +kernel), List.mem_of_getElem? (i := 333) (by decide +kernel)⟩
theorem lw_p2 : lw_okq (⟨"OwedFalls$Reader", "takeNumber", "()V"⟩, 6) := ⟨⟨by decide +kernel, by decide +kernel⟩, List.mem_of_getElem? (i := 23) (by decide +kernel), List.mem_of_getElem? (i := 339) (by decide +kernel), List.mem_of_getElem? (i := 340) (by decide +kernel)⟩
theorem lw_p3 : lw_okq (⟨"OwedFalls$Reader", "readItem", "(LOwedFalls$Plan;)Z"⟩, 6) := ⟨⟨by decide +kernel, by decide +kernel⟩, List.mem_of_getElem? (i := 23) (by decide +kernel), List.mem_of_getElem? (i := 346) (by decide +kernel), List.mem_of_getElem? (i := 347) (by decide +kernel)⟩
theorem lw_p4 : lw_okq (⟨"OwedFalls$Reader", "readStair", "(LOwedFalls$Plan;)Z"⟩, 6) := ⟨⟨by decide +kernel, by decide +kernel⟩, List.mem_of_getElem? (i := 23) (by decide +kernel), List.mem_of_getElem? (i := 350) (by decide +kernel), List.mem_of_getElem? (i := 351) (by decide +kernel)⟩
theorem lw_p5 : lw_okq (⟨"OwedFalls$Reader", "readNumber", "(II)Z"⟩, 6) := ⟨⟨by decide +kernel, by decide +kernel⟩, List.mem_of_getElem? (i := 23) (by decide +kernel), List.mem_of_getElem? (i := 354) (by decide +kernel), List.mem_of_getElem? (i := 355) (by decide +kernel)⟩
theorem lw_p6 : lw_okq (⟨"OwedFalls$Reader", "readStop", "()Z"⟩, 6) := ⟨⟨by decide +kernel, by decide +kernel⟩, List.mem_of_getElem? (i := 23) (by decide +kernel), List.mem_of_getElem? (i := 358) (by decide +kernel), List.mem_of_getElem? (i := 359) (by decide +kernel)⟩
theorem lw_p7 : lw_okq (⟨"OwedFalls$Reader", "readPerson", "(LOwedFalls$Plan;)Z"⟩, 6) := ⟨⟨by decide +kernel, by decide +kernel⟩, List.mem_of_getElem? (i := 23) (by decide +kernel), List.mem_of_getElem? (i := 362) (by decide +kernel), List.mem_of_getElem? (i := 363) (by decide +kernel)⟩
theorem lw_p8 : lw_okq (⟨"OwedFalls$Reader", "readDolls", "(LOwedFalls$Plan;)Z"⟩, 6) := ⟨⟨by decide +kernel, by decide +kernel⟩, List.mem_of_getElem? (i := 23) (by decide +kernel), List.mem_of_getElem? (i := 366) (by decide +kernel), List.mem_of_getElem? (i := 367) (by decide +kernel)⟩
theorem lw_p9 : lw_okq (⟨"OwedFalls$Reader", "readPair", "(LOwedFalls$Plan;)Z"⟩, 6) := ⟨⟨by decide +kernel, by decide +kernel⟩, List.mem_of_getElem? (i := 23) (by decide +kernel), List.mem_of_getElem? (i := 370) (by decide +kernel), List.mem_of_getElem? (i := 371) (by decide +kernel)⟩
theorem lw_p10 : lw_okq (⟨"OwedFalls", "priceOf", "(I)I"⟩, 11) := ⟨⟨by decide +kernel, by decide +kernel⟩, List.mem_of_getElem? (i := 15) (by decide +kernel), List.mem_of_getElem? (i := 396) (by decide +kernel), List.mem_of_getElem? (i := 397) (by decide +kernel)⟩
theorem lw_p11 : lw_okq (⟨"OwedFalls", "stairsPaidOff", "()I"⟩, 11) := ⟨⟨by decide +kernel, by decide +kernel⟩, List.mem_of_getElem? (i := 15) (by decide +kernel), List.mem_of_getElem? (i := 491) (by decide +kernel), List.mem_of_getElem? (i := 492) (by decide +kernel)⟩
theorem lw_p12 : lw_okq (⟨"OwedFalls", "dearest", "()I"⟩, 11) := ⟨⟨by decide +kernel, by decide +kernel⟩, List.mem_of_getElem? (i := 15) (by decide +kernel), List.mem_of_getElem? (i := 495) (by decide +kernel), List.mem_of_getElem? (i := 496) (by decide +kernel)⟩
theorem lw_p13 : lw_okq (⟨"OwedFalls$Rings", "strikeRow", "()V"⟩, 5) := ⟨⟨by decide +kernel, by decide +kernel⟩, List.mem_of_getElem? (i := 135) (by decide +kernel), List.mem_of_getElem? (i := 507) (by decide +kernel), List.mem_of_getElem? (i := 508) (by decide +kernel)⟩
theorem lw_p14 : lw_okq (⟨"OwedFalls$Rings", "linkAt", "(I)I"⟩, 5) := ⟨⟨by decide +kernel, by decide +kernel⟩, List.mem_of_getElem? (i := 135) (by decide +kernel), List.mem_of_getElem? (i := 512) (by decide +kernel), List.mem_of_getElem? (i := 513) (by decide +kernel)⟩
theorem lw_p15 : lw_okq (⟨"OwedFalls$Ways", "goBy", "(III)V"⟩, 1) := ⟨⟨by decide +kernel, by decide +kernel⟩, List.mem_of_getElem? (i := 103) (by decide +kernel), List.mem_of_getElem? (i := 534) (by decide +kernel), List.mem_of_getElem? (i := 535) (by decide +kernel)⟩
def lw_privs_1 : List (MethodName × Nat) := [(⟨"OwedFalls$Reader", "nextToken", "()V"⟩, 6), (⟨"OwedFalls$Reader", "takeWord", "()V"⟩, 6), (⟨"OwedFalls$Reader", "takeNumber", "()V"⟩, 6), (⟨"OwedFalls$Reader", "readItem", "(LOwedFalls$Plan;)Z"⟩, 6), (⟨"OwedFalls$Reader", "readStair", "(LOwedFalls$Plan;)Z"⟩, 6), (⟨"OwedFalls$Reader", "readNumber", "(II)Z"⟩, 6), (⟨"OwedFalls$Reader", "readStop", "()Z"⟩, 6), (⟨"OwedFalls$Reader", "readPerson", "(LOwedFalls$Plan;)Z"⟩, 6), (⟨"OwedFalls$Reader", "readDolls", "(LOwedFalls$Plan;)Z"⟩, 6), (⟨"OwedFalls$Reader", "readPair", "(LOwedFalls$Plan;)Z"⟩, 6), (⟨"OwedFalls", "priceOf", "(I)I"⟩, 11), (⟨"OwedFalls", "stairsPaidOff", "()I"⟩, 11), (⟨"OwedFalls", "dearest", "()I"⟩, 11), (⟨"OwedFalls$Rings", "strikeRow", "()V"⟩, 5), (⟨"OwedFalls$Rings", "linkAt", "(I)I"⟩, 5), (⟨"OwedFalls$Ways", "goBy", "(III)V"⟩, 1)]
theorem lw_r1 : ∀ q ∈ lw_privs_1, lw_okq q := List.forall_mem_cons.mpr ⟨lw_p0, List.forall_mem_cons.mpr ⟨lw_p1, List.forall_mem_cons.mpr ⟨lw_p2, List.forall_mem_cons.mpr ⟨lw_p3, List.forall_mem_cons.mpr ⟨lw_p4, List.forall_mem_cons.mpr ⟨lw_p5, List.forall_mem_cons.mpr ⟨lw_p6, List.forall_mem_cons.mpr ⟨lw_p7, List.forall_mem_cons.mpr ⟨lw_p8, List.forall_mem_cons.mpr ⟨lw_p9, List.forall_mem_cons.mpr ⟨lw_p10, List.forall_mem_cons.mpr ⟨lw_p11, List.forall_mem_cons.mpr ⟨lw_p12, List.forall_mem_cons.mpr ⟨lw_p13, List.forall_mem_cons.mpr ⟨lw_p14, List.forall_mem_cons.mpr ⟨lw_p15, fun _ h => absurd h List.not_mem_nil⟩⟩⟩⟩⟩⟩⟩⟩⟩⟩⟩⟩⟩⟩⟩⟩
theorem lw_p16 : lw_okq (⟨"OwedFalls$Payments", "gatherFalls", "(LOwedFalls$Plan;)V"⟩, 4) := ⟨⟨by decide +kernel, by decide +kernel⟩, List.mem_of_getElem? (i := 114) (by decide +kernel), List.mem_of_getElem? (i := 567) (by decide +kernel), List.mem_of_getElem? (i := 568) (by decide +kernel)⟩
theorem lw_p17 : lw_okq (⟨"OwedFalls$Payments", "offerFall", "(II)V"⟩, 4) := ⟨⟨by decide +kernel, by decide +kernel⟩, List.mem_of_getElem? (i := 114) (by decide +kernel), List.mem_of_getElem? (i := 574) (by decide +kernel), List.mem_of_getElem? (i := 575) (by decide +kernel)⟩
theorem lw_p18 : lw_okq (⟨"OwedFalls$Payments", "cheapestFor", "(I)I"⟩, 4) := ⟨⟨by decide +kernel, by decide +kernel⟩, List.mem_of_getElem? (i := 114) (by decide +kernel), List.mem_of_getElem? (i := 579) (by decide +kernel), List.mem_of_getElem? (i := 580) (by decide +kernel)⟩
theorem lw_p19 : lw_okq (⟨"OwedFalls$Payments", "leastWith", "(II)I"⟩, 4) := ⟨⟨by decide +kernel, by decide +kernel⟩, List.mem_of_getElem? (i := 114) (by decide +kernel), List.mem_of_getElem? (i := 598) (by decide +kernel), List.mem_of_getElem? (i := 599) (by decide +kernel)⟩
theorem lw_p20 : lw_okq (⟨"OwedFalls$Payments", "spentOn", "(III)I"⟩, 4) := ⟨⟨by decide +kernel, by decide +kernel⟩, List.mem_of_getElem? (i := 114) (by decide +kernel), List.mem_of_getElem? (i := 602) (by decide +kernel), List.mem_of_getElem? (i := 603) (by decide +kernel)⟩
theorem lw_p21 : lw_okq (⟨"OwedFalls$Payments", "fewerCoins", "(II)I"⟩, 4) := ⟨⟨by decide +kernel, by decide +kernel⟩, List.mem_of_getElem? (i := 114) (by decide +kernel), List.mem_of_getElem? (i := 618) (by decide +kernel), List.mem_of_getElem? (i := 619) (by decide +kernel)⟩
theorem lw_p22 : lw_okq (⟨"OwedFalls$Suspects", "note", "(I)V"⟩, 4) := ⟨⟨by decide +kernel, by decide +kernel⟩, List.mem_of_getElem? (i := 157) (by decide +kernel), List.mem_of_getElem? (i := 640) (by decide +kernel), List.mem_of_getElem? (i := 641) (by decide +kernel)⟩
theorem lw_p23 : lw_okq (⟨"OwedFalls$Suspects", "spreadChances", "(LOwedFalls$Plan;)I"⟩, 4) := ⟨⟨by decide +kernel, by decide +kernel⟩, List.mem_of_getElem? (i := 157) (by decide +kernel), List.mem_of_getElem? (i := 653) (by decide +kernel), List.mem_of_getElem? (i := 654) (by decide +kernel)⟩
theorem lw_p24 : lw_okq (⟨"OwedFalls", "asStair", "(I)I"⟩, 11) := ⟨⟨by decide +kernel, by decide +kernel⟩, List.mem_of_getElem? (i := 15) (by decide +kernel), List.mem_of_getElem? (i := 666) (by decide +kernel), List.mem_of_getElem? (i := 667) (by decide +kernel)⟩
theorem lw_p25 : lw_okq (⟨"OwedFalls", "asMarble", "(I)I"⟩, 11) := ⟨⟨by decide +kernel, by decide +kernel⟩, List.mem_of_getElem? (i := 15) (by decide +kernel), List.mem_of_getElem? (i := 670) (by decide +kernel), List.mem_of_getElem? (i := 671) (by decide +kernel)⟩
theorem lw_p26 : lw_okq (⟨"OwedFalls", "asLadder", "(I)I"⟩, 11) := ⟨⟨by decide +kernel, by decide +kernel⟩, List.mem_of_getElem? (i := 15) (by decide +kernel), List.mem_of_getElem? (i := 675) (by decide +kernel), List.mem_of_getElem? (i := 676) (by decide +kernel)⟩
theorem lw_p27 : lw_okq (⟨"OwedFalls", "asChurch", "(I)I"⟩, 11) := ⟨⟨by decide +kernel, by decide +kernel⟩, List.mem_of_getElem? (i := 15) (by decide +kernel), List.mem_of_getElem? (i := 680) (by decide +kernel), List.mem_of_getElem? (i := 681) (by decide +kernel)⟩
theorem lw_p28 : lw_okq (⟨"OwedFalls", "asLift", "(I)I"⟩, 11) := ⟨⟨by decide +kernel, by decide +kernel⟩, List.mem_of_getElem? (i := 15) (by decide +kernel), List.mem_of_getElem? (i := 685) (by decide +kernel), List.mem_of_getElem? (i := 686) (by decide +kernel)⟩
theorem lw_p29 : lw_okq (⟨"OwedFalls", "asTower", "(I)I"⟩, 11) := ⟨⟨by decide +kernel, by decide +kernel⟩, List.mem_of_getElem? (i := 15) (by decide +kernel), List.mem_of_getElem? (i := 690) (by decide +kernel), List.mem_of_getElem? (i := 691) (by decide +kernel)⟩
theorem lw_p30 : lw_okq (⟨"OwedFallsModel", "reads", "()Z"⟩, 18) := ⟨⟨by decide +kernel, by decide +kernel⟩, List.mem_of_getElem? (i := 718) (by decide +kernel), List.mem_of_getElem? (i := 724) (by decide +kernel), List.mem_of_getElem? (i := 725) (by decide +kernel)⟩
theorem lw_p31 : lw_okq (⟨"OwedFallsModel", "token", "()V"⟩, 18) := ⟨⟨by decide +kernel, by decide +kernel⟩, List.mem_of_getElem? (i := 718) (by decide +kernel), List.mem_of_getElem? (i := 728) (by decide +kernel), List.mem_of_getElem? (i := 729) (by decide +kernel)⟩
def lw_privs_2 : List (MethodName × Nat) := [(⟨"OwedFalls$Payments", "gatherFalls", "(LOwedFalls$Plan;)V"⟩, 4), (⟨"OwedFalls$Payments", "offerFall", "(II)V"⟩, 4), (⟨"OwedFalls$Payments", "cheapestFor", "(I)I"⟩, 4), (⟨"OwedFalls$Payments", "leastWith", "(II)I"⟩, 4), (⟨"OwedFalls$Payments", "spentOn", "(III)I"⟩, 4), (⟨"OwedFalls$Payments", "fewerCoins", "(II)I"⟩, 4), (⟨"OwedFalls$Suspects", "note", "(I)V"⟩, 4), (⟨"OwedFalls$Suspects", "spreadChances", "(LOwedFalls$Plan;)I"⟩, 4), (⟨"OwedFalls", "asStair", "(I)I"⟩, 11), (⟨"OwedFalls", "asMarble", "(I)I"⟩, 11), (⟨"OwedFalls", "asLadder", "(I)I"⟩, 11), (⟨"OwedFalls", "asChurch", "(I)I"⟩, 11), (⟨"OwedFalls", "asLift", "(I)I"⟩, 11), (⟨"OwedFalls", "asTower", "(I)I"⟩, 11), (⟨"OwedFallsModel", "reads", "()Z"⟩, 18), (⟨"OwedFallsModel", "token", "()V"⟩, 18)]
theorem lw_r2 : ∀ q ∈ lw_privs_2, lw_okq q := List.forall_mem_cons.mpr ⟨lw_p16, List.forall_mem_cons.mpr ⟨lw_p17, List.forall_mem_cons.mpr ⟨lw_p18, List.forall_mem_cons.mpr ⟨lw_p19, List.forall_mem_cons.mpr ⟨lw_p20, List.forall_mem_cons.mpr ⟨lw_p21, List.forall_mem_cons.mpr ⟨lw_p22, List.forall_mem_cons.mpr ⟨lw_p23, List.forall_mem_cons.mpr ⟨lw_p24, List.forall_mem_cons.mpr ⟨lw_p25, List.forall_mem_cons.mpr ⟨lw_p26, List.forall_mem_cons.mpr ⟨lw_p27, List.forall_mem_cons.mpr ⟨lw_p28, List.forall_mem_cons.mpr ⟨lw_p29, List.forall_mem_cons.mpr ⟨lw_p30, List.forall_mem_cons.mpr ⟨lw_p31, fun _ h => absurd h List.not_mem_nil⟩⟩⟩⟩⟩⟩⟩⟩⟩⟩⟩⟩⟩⟩⟩⟩
theorem lw_p32 : lw_okq (⟨"OwedFallsModel", "byteAt", "(I)I"⟩, 18) := ⟨⟨by decide +kernel, by decide +kernel⟩, List.mem_of_getElem? (i := 718) (by decide +kernel), List.mem_of_getElem? (i := 732) (by decide +kernel), List.mem_of_getElem? (i := 733) (by decide +kernel)⟩
theorem lw_p33 : lw_okq (⟨"OwedFallsModel", "readsItem", "()Z"⟩, 18) := ⟨⟨by decide +kernel, by decide +kernel⟩, List.mem_of_getElem? (i := 718) (by decide +kernel), List.mem_of_getElem? (i := 745) (by decide +kernel), List.mem_of_getElem? (i := 746) (by decide +kernel)⟩
theorem lw_p34 : lw_okq (⟨"OwedFallsModel", "readsStair", "()Z"⟩, 18) := ⟨⟨by decide +kernel, by decide +kernel⟩, List.mem_of_getElem? (i := 718) (by decide +kernel), List.mem_of_getElem? (i := 749) (by decide +kernel), List.mem_of_getElem? (i := 750) (by decide +kernel)⟩
theorem lw_p35 : lw_okq (⟨"OwedFallsModel", "number", "(III)Z"⟩, 18) := ⟨⟨by decide +kernel, by decide +kernel⟩, List.mem_of_getElem? (i := 718) (by decide +kernel), List.mem_of_getElem? (i := 753) (by decide +kernel), List.mem_of_getElem? (i := 754) (by decide +kernel)⟩
theorem lw_p36 : lw_okq (⟨"OwedFallsModel", "readsPerson", "()Z"⟩, 18) := ⟨⟨by decide +kernel, by decide +kernel⟩, List.mem_of_getElem? (i := 718) (by decide +kernel), List.mem_of_getElem? (i := 757) (by decide +kernel), List.mem_of_getElem? (i := 758) (by decide +kernel)⟩
theorem lw_p37 : lw_okq (⟨"OwedFallsModel", "once", "(II)Z"⟩, 18) := ⟨⟨by decide +kernel, by decide +kernel⟩, List.mem_of_getElem? (i := 718) (by decide +kernel), List.mem_of_getElem? (i := 761) (by decide +kernel), List.mem_of_getElem? (i := 762) (by decide +kernel)⟩
theorem lw_p38 : lw_okq (⟨"OwedFallsModel", "tells", "()V"⟩, 18) := ⟨⟨by decide +kernel, by decide +kernel⟩, List.mem_of_getElem? (i := 718) (by decide +kernel), List.mem_of_getElem? (i := 765) (by decide +kernel), List.mem_of_getElem? (i := 766) (by decide +kernel)⟩
theorem lw_p39 : lw_okq (⟨"OwedFallsModel", "isStair", "(I)Z"⟩, 18) := ⟨⟨by decide +kernel, by decide +kernel⟩, List.mem_of_getElem? (i := 718) (by decide +kernel), List.mem_of_getElem? (i := 840) (by decide +kernel), List.mem_of_getElem? (i := 841) (by decide +kernel)⟩
theorem lw_p40 : lw_okq (⟨"OwedFallsModel", "price", "(I)I"⟩, 18) := ⟨⟨by decide +kernel, by decide +kernel⟩, List.mem_of_getElem? (i := 718) (by decide +kernel), List.mem_of_getElem? (i := 844) (by decide +kernel), List.mem_of_getElem? (i := 845) (by decide +kernel)⟩
theorem lw_p41 : lw_okq (⟨"OwedFallsModel", "isPerson", "(I)Z"⟩, 18) := ⟨⟨by decide +kernel, by decide +kernel⟩, List.mem_of_getElem? (i := 718) (by decide +kernel), List.mem_of_getElem? (i := 852) (by decide +kernel), List.mem_of_getElem? (i := 853) (by decide +kernel)⟩
theorem lw_p42 : lw_okq (⟨"OwedFallsModel", "keeps", "()V"⟩, 18) := ⟨⟨by decide +kernel, by decide +kernel⟩, List.mem_of_getElem? (i := 718) (by decide +kernel), List.mem_of_getElem? (i := 864) (by decide +kernel), List.mem_of_getElem? (i := 865) (by decide +kernel)⟩
theorem lw_p43 : lw_okq (⟨"OwedFallsModel", "counts", "(I)I"⟩, 18) := ⟨⟨by decide +kernel, by decide +kernel⟩, List.mem_of_getElem? (i := 718) (by decide +kernel), List.mem_of_getElem? (i := 868) (by decide +kernel), List.mem_of_getElem? (i := 869) (by decide +kernel)⟩
theorem lw_p44 : lw_okq (⟨"OwedFallsModel", "pays", "(III)I"⟩, 18) := ⟨⟨by decide +kernel, by decide +kernel⟩, List.mem_of_getElem? (i := 718) (by decide +kernel), List.mem_of_getElem? (i := 872) (by decide +kernel), List.mem_of_getElem? (i := 873) (by decide +kernel)⟩
theorem lw_p45 : lw_okq (⟨"OwedFallsModel", "all", "()I"⟩, 18) := ⟨⟨by decide +kernel, by decide +kernel⟩, List.mem_of_getElem? (i := 718) (by decide +kernel), List.mem_of_getElem? (i := 900) (by decide +kernel), List.mem_of_getElem? (i := 901) (by decide +kernel)⟩
theorem lw_p46 : lw_okq (⟨"OwedFallsModel", "dear", "()I"⟩, 18) := ⟨⟨by decide +kernel, by decide +kernel⟩, List.mem_of_getElem? (i := 718) (by decide +kernel), List.mem_of_getElem? (i := 912) (by decide +kernel), List.mem_of_getElem? (i := 913) (by decide +kernel)⟩
theorem lw_p47 : lw_okq (⟨"OwedFallsModel", "struck", "()I"⟩, 18) := ⟨⟨by decide +kernel, by decide +kernel⟩, List.mem_of_getElem? (i := 718) (by decide +kernel), List.mem_of_getElem? (i := 916) (by decide +kernel), List.mem_of_getElem? (i := 917) (by decide +kernel)⟩
def lw_privs_3 : List (MethodName × Nat) := [(⟨"OwedFallsModel", "byteAt", "(I)I"⟩, 18), (⟨"OwedFallsModel", "readsItem", "()Z"⟩, 18), (⟨"OwedFallsModel", "readsStair", "()Z"⟩, 18), (⟨"OwedFallsModel", "number", "(III)Z"⟩, 18), (⟨"OwedFallsModel", "readsPerson", "()Z"⟩, 18), (⟨"OwedFallsModel", "once", "(II)Z"⟩, 18), (⟨"OwedFallsModel", "tells", "()V"⟩, 18), (⟨"OwedFallsModel", "isStair", "(I)Z"⟩, 18), (⟨"OwedFallsModel", "price", "(I)I"⟩, 18), (⟨"OwedFallsModel", "isPerson", "(I)Z"⟩, 18), (⟨"OwedFallsModel", "keeps", "()V"⟩, 18), (⟨"OwedFallsModel", "counts", "(I)I"⟩, 18), (⟨"OwedFallsModel", "pays", "(III)I"⟩, 18), (⟨"OwedFallsModel", "all", "()I"⟩, 18), (⟨"OwedFallsModel", "dear", "()I"⟩, 18), (⟨"OwedFallsModel", "struck", "()I"⟩, 18)]
theorem lw_r3 : ∀ q ∈ lw_privs_3, lw_okq q := List.forall_mem_cons.mpr ⟨lw_p32, List.forall_mem_cons.mpr ⟨lw_p33, List.forall_mem_cons.mpr ⟨lw_p34, List.forall_mem_cons.mpr ⟨lw_p35, List.forall_mem_cons.mpr ⟨lw_p36, List.forall_mem_cons.mpr ⟨lw_p37, List.forall_mem_cons.mpr ⟨lw_p38, List.forall_mem_cons.mpr ⟨lw_p39, List.forall_mem_cons.mpr ⟨lw_p40, List.forall_mem_cons.mpr ⟨lw_p41, List.forall_mem_cons.mpr ⟨lw_p42, List.forall_mem_cons.mpr ⟨lw_p43, List.forall_mem_cons.mpr ⟨lw_p44, List.forall_mem_cons.mpr ⟨lw_p45, List.forall_mem_cons.mpr ⟨lw_p46, List.forall_mem_cons.mpr ⟨lw_p47, fun _ h => absurd h List.not_mem_nil⟩⟩⟩⟩⟩⟩⟩⟩⟩⟩⟩⟩⟩⟩⟩⟩
theorem lw_p48 : lw_okq (⟨"OwedFallsModel", "finds", "(I)Z"⟩, 18) := ⟨⟨by decide +kernel, by decide +kernel⟩, List.mem_of_getElem? (i := 718) (by decide +kernel), List.mem_of_getElem? (i := 920) (by decide +kernel), List.mem_of_getElem? (i := 921) (by decide +kernel)⟩
theorem lw_p49 : lw_okq (⟨"OwedFallsModel", "lays", "(I)V"⟩, 18) := ⟨⟨by decide +kernel, by decide +kernel⟩, List.mem_of_getElem? (i := 718) (by decide +kernel), List.mem_of_getElem? (i := 931) (by decide +kernel), List.mem_of_getElem? (i := 932) (by decide +kernel)⟩
theorem lw_p50 : lw_okq (⟨"OwedFallsModel", "weight", "(I)I"⟩, 18) := ⟨⟨by decide +kernel, by decide +kernel⟩, List.mem_of_getElem? (i := 718) (by decide +kernel), List.mem_of_getElem? (i := 935) (by decide +kernel), List.mem_of_getElem? (i := 936) (by decide +kernel)⟩
theorem lw_p51 : lw_okq (⟨"OwedFallsModel", "other", "(II)I"⟩, 18) := ⟨⟨by decide +kernel, by decide +kernel⟩, List.mem_of_getElem? (i := 718) (by decide +kernel), List.mem_of_getElem? (i := 939) (by decide +kernel), List.mem_of_getElem? (i := 940) (by decide +kernel)⟩
theorem lw_p52 : lw_okq (⟨"OwedFallsModel", "isWay", "(III)Z"⟩, 18) := ⟨⟨by decide +kernel, by decide +kernel⟩, List.mem_of_getElem? (i := 718) (by decide +kernel), List.mem_of_getElem? (i := 947) (by decide +kernel), List.mem_of_getElem? (i := 948) (by decide +kernel)⟩
theorem lw_p53 : lw_okq (⟨"OwedFallsModel", "dueBy", "(II)I"⟩, 18) := ⟨⟨by decide +kernel, by decide +kernel⟩, List.mem_of_getElem? (i := 718) (by decide +kernel), List.mem_of_getElem? (i := 963) (by decide +kernel), List.mem_of_getElem? (i := 964) (by decide +kernel)⟩
def lw_privs_4 : List (MethodName × Nat) := [(⟨"OwedFallsModel", "finds", "(I)Z"⟩, 18), (⟨"OwedFallsModel", "lays", "(I)V"⟩, 18), (⟨"OwedFallsModel", "weight", "(I)I"⟩, 18), (⟨"OwedFallsModel", "other", "(II)I"⟩, 18), (⟨"OwedFallsModel", "isWay", "(III)Z"⟩, 18), (⟨"OwedFallsModel", "dueBy", "(II)I"⟩, 18)]
theorem lw_r4 : ∀ q ∈ lw_privs_4, lw_okq q := List.forall_mem_cons.mpr ⟨lw_p48, List.forall_mem_cons.mpr ⟨lw_p49, List.forall_mem_cons.mpr ⟨lw_p50, List.forall_mem_cons.mpr ⟨lw_p51, List.forall_mem_cons.mpr ⟨lw_p52, List.forall_mem_cons.mpr ⟨lw_p53, fun _ h => absurd h List.not_mem_nil⟩⟩⟩⟩⟩⟩
def lw_privs : List (MethodName × Nat) := lw_privs_1 ++ (lw_privs_2 ++ (lw_privs_3 ++ (lw_privs_4)))
def lw_tbl : List Cond := k2_sels lw_privs ++ tables_1
theorem lw_privs_ok : ∀ q ∈ lw_privs, lw_okq q := by
  show ∀ q ∈ lw_privs_1 ++ (lw_privs_2 ++ (lw_privs_3 ++ (lw_privs_4))), lw_okq q
  exact List.forall_mem_append.mpr ⟨lw_r1, List.forall_mem_append.mpr ⟨lw_r2, List.forall_mem_append.mpr ⟨lw_r3, lw_r4⟩⟩⟩
end
section
/-! ===== BEGIN words of one list among another's, by their places ===== -/
theorem goodIn_r {big : List Cond} (ws : List Cond) (ps : List Nat) (hp : ws = ps.filterMap (fun i => big[i]?)) (h : ws.all goodWord = true) : GoodIn big ws := by
  intro w hw
  have h1 := List.all_eq_true.mp h w hw
  rw [hp] at hw
  obtain ⟨i, -, hi⟩ := List.mem_filterMap.mp hw
  have hm : w ∈ big := by first | exact List.mem_of_getElem? hi | exact List.getElem?_mem hi
  exact ⟨hm, good_of_word h1⟩
theorem goodIn_app {big a b : List Cond} (ha : GoodIn big a) (hb : GoodIn big b) : GoodIn big (a ++ b) := fun w h => (List.mem_append.mp h).elim (ha w) (hb w)
theorem goodIn_ca {big a b : List Cond} {c : Cond} (ha : GoodIn big (c :: a)) (hb : GoodIn big b) : GoodIn big (c :: (a ++ b)) := fun w h => (List.mem_cons.mp h).elim (fun e => ha w (List.mem_cons.mpr (Or.inl e))) (fun h => (List.mem_append.mp h).elim (fun h => ha w (List.mem_cons.mpr (Or.inr h))) (hb w))
theorem goodIn_sub {big ws : List Cond} (hm : ∀ w ∈ ws, w ∈ big) (h : ws.all goodWord = true) : GoodIn big ws := fun w hw => ⟨hm w hw, good_of_word (List.all_eq_true.mp h w hw)⟩
/-! ===== END ===== -/

/-! ===== BEGIN printed: names, fields, word lists, decode rows ===== -/
def RX0 : String := "OwedFalls$Ledger"
def TX0 : u_T := fun k => match k with
  | 0 => ("OwedFalls$Ledger", "present", "LOwedFalls$Moment;", true)
  | 1 => ("OwedFalls$Ledger", "past", "[LOwedFalls$Moment;", true)
  | 2 => ("OwedFalls$Ledger", "known", "I", false)
  | _ => ("OwedFalls$Ledger", "next", "I", false)
def tyX0 : Nat → FieldType := fun k => match k with
  | 0 => .object "OwedFalls$Moment"
  | 1 => .array (.object "OwedFalls$Moment")
  | 2 => .int
  | _ => .int
abbrev wsX00 : List Cond := u_ws RX0 TX0 4
theorem nmX0 : ∀ a, a < 4 → ∀ b, b < 4 → a ≠ b → (TX0 a).2.1 ≠ (TX0 b).2.1 := by decide +kernel
theorem tyX0_ok : ∀ k, k < 4 → parseFieldDescriptor (TX0 k).2.2.1 = some (tyX0 k) := by decide +kernel
abbrev cX0_init : ByteArray := prog_2_method_1_code
def yX0_init : MethodName := ⟨RX0, "<init>", "()V"⟩
abbrev cX0_begin : ByteArray := prog_2_method_2_code
def yX0_begin : MethodName := ⟨RX0, "begin", "(LOwedFalls$Plan;)V"⟩
abbrev cX0_remember : ByteArray := prog_2_method_3_code
def yX0_remember : MethodName := ⟨RX0, "remember", "()V"⟩
abbrev cX0_takeBack : ByteArray := prog_2_method_4_code
def yX0_takeBack : MethodName := ⟨RX0, "takeBack", "()Z"⟩
abbrev cX0_copyFrom : ByteArray := prog_2_method_5_code
def yX0_copyFrom : MethodName := ⟨RX0, "copyFrom", "(LOwedFalls$Ledger;)V"⟩
def RX1 : String := "OwedFalls$Moment"
def TX1 : u_T := fun k => match k with
  | 0 => ("OwedFalls$Moment", "due", "[I", true)
  | 1 => ("OwedFalls$Moment", "thrown", "[I", true)
  | 2 => ("OwedFalls$Moment", "bonds", "[I", true)
  | 3 => ("OwedFalls$Moment", "hurt", "I", false)
  | _ => ("OwedFalls$Moment", "year", "I", false)
def tyX1 : Nat → FieldType := fun k => match k with
  | 0 => .array .int
  | 1 => .array .int
  | 2 => .array .int
  | 3 => .int
  | _ => .int
abbrev wsX10 : List Cond := u_ws RX1 TX1 5
theorem nmX1 : ∀ a, a < 5 → ∀ b, b < 5 → a ≠ b → (TX1 a).2.1 ≠ (TX1 b).2.1 := by decide +kernel
theorem tyX1_ok : ∀ k, k < 5 → parseFieldDescriptor (TX1 k).2.2.1 = some (tyX1 k) := by decide +kernel
abbrev cX1_init : ByteArray := prog_3_method_1_code
def yX1_init : MethodName := ⟨RX1, "<init>", "()V"⟩
abbrev cX1_begin : ByteArray := prog_3_method_2_code
def yX1_begin : MethodName := ⟨RX1, "begin", "(LOwedFalls$Plan;)V"⟩
abbrev cX1_copyFrom : ByteArray := prog_3_method_3_code
def yX1_copyFrom : MethodName := ⟨RX1, "copyFrom", "(LOwedFalls$Moment;)V"⟩
abbrev cX1_lessen : ByteArray := prog_3_method_4_code
def yX1_lessen : MethodName := ⟨RX1, "lessen", "(II)I"⟩
abbrev cX1_addHurt : ByteArray := prog_3_method_5_code
def yX1_addHurt : MethodName := ⟨RX1, "addHurt", "(I)V"⟩
abbrev cX1_endYear : ByteArray := prog_3_method_6_code
def yX1_endYear : MethodName := ⟨RX1, "endYear", "(LOwedFalls$Plan;)V"⟩
abbrev cX1_dueOfAll : ByteArray := prog_3_method_7_code
def yX1_dueOfAll : MethodName := ⟨RX1, "dueOfAll", "(I)I"⟩
def RX2 : String := "OwedFalls$Payments"
def TX2 : u_T := fun k => match k with
  | 0 => ("OwedFalls$Payments", "hurtFor", "[I", true)
  | 1 => ("OwedFalls$Payments", "fallsFor", "[I", true)
  | 2 => ("OwedFalls$Payments", "dueAfter", "[[I", true)
  | _ => ("OwedFalls$Payments", "best", "[[I", true)
def tyX2 : Nat → FieldType := fun k => match k with
  | 0 => .array .int
  | 1 => .array .int
  | 2 => .array (.array .int)
  | _ => .array (.array .int)
abbrev wsX20 : List Cond := u_ws RX2 TX2 4
theorem nmX2 : ∀ a, a < 4 → ∀ b, b < 4 → a ≠ b → (TX2 a).2.1 ≠ (TX2 b).2.1 := by decide +kernel
theorem tyX2_ok : ∀ k, k < 4 → parseFieldDescriptor (TX2 k).2.2.1 = some (tyX2 k) := by decide +kernel
abbrev cX2_init : ByteArray := prog_4_method_1_code
def yX2_init : MethodName := ⟨RX2, "<init>", "()V"⟩
abbrev cX2_payByFalls : ByteArray := prog_4_method_2_code
def yX2_payByFalls : MethodName := ⟨RX2, "payByFalls", "(LOwedFalls$Plan;IZ)I"⟩
abbrev cX2_gatherFalls : ByteArray := prog_4_method_3_code
def yX2_gatherFalls : MethodName := ⟨RX2, "gatherFalls", "(LOwedFalls$Plan;)V"⟩
abbrev cX2_offerFall : ByteArray := prog_4_method_4_code
def yX2_offerFall : MethodName := ⟨RX2, "offerFall", "(II)V"⟩
abbrev cX2_cheapestFor : ByteArray := prog_4_method_5_code
def yX2_cheapestFor : MethodName := ⟨RX2, "cheapestFor", "(I)I"⟩
abbrev cX2_spend : ByteArray := prog_4_method_6_code
def yX2_spend : MethodName := ⟨RX2, "spend", "(LOwedFalls$Plan;LOwedFalls$Moment;I)V"⟩
abbrev cX2_leastWith : ByteArray := prog_4_method_7_code
def yX2_leastWith : MethodName := ⟨RX2, "leastWith", "(II)I"⟩
abbrev cX2_spentOn : ByteArray := prog_4_method_8_code
def yX2_spentOn : MethodName := ⟨RX2, "spentOn", "(III)I"⟩
abbrev cX2_dueWithCoins : ByteArray := prog_4_method_9_code
def yX2_dueWithCoins : MethodName := ⟨RX2, "dueWithCoins", "(III)I"⟩
abbrev cX2_leastDue : ByteArray := prog_4_method_10_code
def yX2_leastDue : MethodName := ⟨RX2, "leastDue", "(I)I"⟩
abbrev cX2_fewestCoins : ByteArray := prog_4_method_11_code
def yX2_fewestCoins : MethodName := ⟨RX2, "fewestCoins", "(I)I"⟩
abbrev cX2_coinsFor : ByteArray := prog_4_method_12_code
def yX2_coinsFor : MethodName := ⟨RX2, "coinsFor", "(II)I"⟩
abbrev cX2_fewerCoins : ByteArray := prog_4_method_13_code
def yX2_fewerCoins : MethodName := ⟨RX2, "fewerCoins", "(II)I"⟩
abbrev cX2_yearsTillFree : ByteArray := prog_4_method_14_code
def yX2_yearsTillFree : MethodName := ⟨RX2, "yearsTillFree", "(III)I"⟩
def RX3 : String := "OwedFalls$Plan"
def TX3 : u_T := fun k => match k with
  | 0 => ("OwedFalls$Plan", "floorA", "[I", true)
  | 1 => ("OwedFalls$Plan", "floorB", "[I", true)
  | 2 => ("OwedFalls$Plan", "steps", "[I", true)
  | 3 => ("OwedFalls$Plan", "owes", "[I", true)
  | 4 => ("OwedFalls$Plan", "child", "[I", true)
  | 5 => ("OwedFalls$Plan", "care", "[I", true)
  | 6 => ("OwedFalls$Plan", "hurtBy", "[I", true)
  | 7 => ("OwedFalls$Plan", "stairs", "I", false)
  | 8 => ("OwedFalls$Plan", "people", "I", false)
  | 9 => ("OwedFalls$Plan", "dolls", "I", false)
  | 10 => ("OwedFalls$Plan", "pair", "I", false)
  | 11 => ("OwedFalls$Plan", "dollsTold", "Z", false)
  | _ => ("OwedFalls$Plan", "pairTold", "Z", false)
def tyX3 : Nat → FieldType := fun k => match k with
  | 0 => .array .int
  | 1 => .array .int
  | 2 => .array .int
  | 3 => .array .int
  | 4 => .array .int
  | 5 => .array .int
  | 6 => .array .int
  | 7 => .int
  | 8 => .int
  | 9 => .int
  | 10 => .int
  | 11 => .boolean
  | _ => .boolean
abbrev wsX30 : List Cond := u_ws RX3 TX3 13
theorem nmX3 : ∀ a, a < 13 → ∀ b, b < 13 → a ≠ b → (TX3 a).2.1 ≠ (TX3 b).2.1 := by decide +kernel
theorem tyX3_ok : ∀ k, k < 13 → parseFieldDescriptor (TX3 k).2.2.1 = some (tyX3 k) := by decide +kernel
abbrev cX3_init : ByteArray := prog_5_method_1_code
def yX3_init : MethodName := ⟨RX3, "<init>", "()V"⟩
abbrev cX3_forget : ByteArray := prog_5_method_2_code
def yX3_forget : MethodName := ⟨RX3, "forget", "()V"⟩
abbrev cX3_hasStair : ByteArray := prog_5_method_3_code
def yX3_hasStair : MethodName := ⟨RX3, "hasStair", "(I)Z"⟩
abbrev cX3_hasTwoStairs : ByteArray := prog_5_method_4_code
def yX3_hasTwoStairs : MethodName := ⟨RX3, "hasTwoStairs", "(II)Z"⟩
abbrev cX3_hasPerson : ByteArray := prog_5_method_5_code
def yX3_hasPerson : MethodName := ⟨RX3, "hasPerson", "(I)Z"⟩
abbrev cX3_halvesOf : ByteArray := prog_5_method_6_code
def yX3_halvesOf : MethodName := ⟨RX3, "halvesOf", "(I)I"⟩
def RX4 : String := "OwedFalls$Reader"
def TX4 : u_T := fun k => match k with
  | 0 => ("OwedFalls$Reader", "bytes", "[I", true)
  | 1 => ("OwedFalls$Reader", "length", "I", false)
  | 2 => ("OwedFalls$Reader", "place", "I", false)
  | 3 => ("OwedFalls$Reader", "tokenAt", "I", false)
  | 4 => ("OwedFalls$Reader", "tokenKind", "I", false)
  | _ => ("OwedFalls$Reader", "tokenValue", "I", false)
def tyX4 : Nat → FieldType := fun k => match k with
  | 0 => .array .int
  | 1 => .int
  | 2 => .int
  | 3 => .int
  | 4 => .int
  | _ => .int
abbrev wsX40 : List Cond := u_ws RX4 TX4 6
theorem nmX4 : ∀ a, a < 6 → ∀ b, b < 6 → a ≠ b → (TX4 a).2.1 ≠ (TX4 b).2.1 := by decide +kernel
theorem tyX4_ok : ∀ k, k < 6 → parseFieldDescriptor (TX4 k).2.2.1 = some (tyX4 k) := by decide +kernel
abbrev cX4_init : ByteArray := prog_6_method_1_code
def yX4_init : MethodName := ⟨RX4, "<init>", "()V"⟩
abbrev cX4_take : ByteArray := prog_6_method_2_code
def yX4_take : MethodName := ⟨RX4, "take", "(I)Z"⟩
abbrev cX4_empty : ByteArray := prog_6_method_3_code
def yX4_empty : MethodName := ⟨RX4, "empty", "()V"⟩
abbrev cX4_readInto : ByteArray := prog_6_method_4_code
def yX4_readInto : MethodName := ⟨RX4, "readInto", "(LOwedFalls$Plan;)I"⟩
abbrev cX4_readItem : ByteArray := prog_6_method_5_code
def yX4_readItem : MethodName := ⟨RX4, "readItem", "(LOwedFalls$Plan;)Z"⟩
abbrev cX4_readStair : ByteArray := prog_6_method_6_code
def yX4_readStair : MethodName := ⟨RX4, "readStair", "(LOwedFalls$Plan;)Z"⟩
abbrev cX4_readPerson : ByteArray := prog_6_method_7_code
def yX4_readPerson : MethodName := ⟨RX4, "readPerson", "(LOwedFalls$Plan;)Z"⟩
abbrev cX4_readDolls : ByteArray := prog_6_method_8_code
def yX4_readDolls : MethodName := ⟨RX4, "readDolls", "(LOwedFalls$Plan;)Z"⟩
abbrev cX4_readPair : ByteArray := prog_6_method_9_code
def yX4_readPair : MethodName := ⟨RX4, "readPair", "(LOwedFalls$Plan;)Z"⟩
abbrev cX4_readNumber : ByteArray := prog_6_method_10_code
def yX4_readNumber : MethodName := ⟨RX4, "readNumber", "(II)Z"⟩
abbrev cX4_readStop : ByteArray := prog_6_method_11_code
def yX4_readStop : MethodName := ⟨RX4, "readStop", "()Z"⟩
abbrev cX4_nextToken : ByteArray := prog_6_method_12_code
def yX4_nextToken : MethodName := ⟨RX4, "nextToken", "()V"⟩
abbrev cX4_takeWord : ByteArray := prog_6_method_13_code
def yX4_takeWord : MethodName := ⟨RX4, "takeWord", "()V"⟩
abbrev cX4_takeNumber : ByteArray := prog_6_method_14_code
def yX4_takeNumber : MethodName := ⟨RX4, "takeNumber", "()V"⟩
abbrev cX4_isLetter : ByteArray := prog_6_method_15_code
def yX4_isLetter : MethodName := ⟨RX4, "isLetter", "(I)Z"⟩
abbrev cX4_isDigit : ByteArray := prog_6_method_16_code
def yX4_isDigit : MethodName := ⟨RX4, "isDigit", "(I)Z"⟩
def RX5 : String := "OwedFalls$Rings"
def TX5 : u_T := fun k => match k with
  | 0 => ("OwedFalls$Rings", "left", "[I", true)
  | 1 => ("OwedFalls$Rings", "row", "[I", true)
  | 2 => ("OwedFalls$Rings", "size", "I", false)
  | 3 => ("OwedFalls$Rings", "stairs", "I", false)
  | _ => ("OwedFalls$Rings", "struck", "I", false)
def tyX5 : Nat → FieldType := fun k => match k with
  | 0 => .array .int
  | 1 => .array .int
  | 2 => .int
  | 3 => .int
  | _ => .int
abbrev wsX50 : List Cond := u_ws RX5 TX5 5
theorem nmX5 : ∀ a, a < 5 → ∀ b, b < 5 → a ≠ b → (TX5 a).2.1 ≠ (TX5 b).2.1 := by decide +kernel
theorem tyX5_ok : ∀ k, k < 5 → parseFieldDescriptor (TX5 k).2.2.1 = some (tyX5 k) := by decide +kernel
abbrev cX5_init : ByteArray := prog_7_method_1_code
def yX5_init : MethodName := ⟨RX5, "<init>", "()V"⟩
abbrev cX5_strikeAll : ByteArray := prog_7_method_2_code
def yX5_strikeAll : MethodName := ⟨RX5, "strikeAll", "([II)I"⟩
abbrev cX5_goOn : ByteArray := prog_7_method_3_code
def yX5_goOn : MethodName := ⟨RX5, "goOn", "(LOwedFalls$Rings;II)V"⟩
abbrev cX5_strikeRow : ByteArray := prog_7_method_4_code
def yX5_strikeRow : MethodName := ⟨RX5, "strikeRow", "()V"⟩
abbrev cX5_linkAt : ByteArray := prog_7_method_5_code
def yX5_linkAt : MethodName := ⟨RX5, "linkAt", "(I)I"⟩
def RX6 : String := "OwedFalls$Suspects"
def TX6 : u_T := fun k => match k with
  | 0 => ("OwedFalls$Suspects", "chances", "[I", true)
  | 1 => ("OwedFalls$Suspects", "found", "I", false)
  | 2 => ("OwedFalls$Suspects", "inEach", "I", false)
  | _ => ("OwedFalls$Suspects", "inSome", "I", false)
def tyX6 : Nat → FieldType := fun k => match k with
  | 0 => .array .int
  | 1 => .int
  | 2 => .int
  | _ => .int
abbrev wsX60 : List Cond := u_ws RX6 TX6 4
theorem nmX6 : ∀ a, a < 4 → ∀ b, b < 4 → a ≠ b → (TX6 a).2.1 ≠ (TX6 b).2.1 := by decide +kernel
theorem tyX6_ok : ∀ k, k < 4 → parseFieldDescriptor (TX6 k).2.2.1 = some (tyX6 k) := by decide +kernel
abbrev cX6_init : ByteArray := prog_8_method_1_code
def yX6_init : MethodName := ⟨RX6, "<init>", "()V"⟩
abbrev cX6_search : ByteArray := prog_8_method_2_code
def yX6_search : MethodName := ⟨RX6, "search", "(LOwedFalls$Plan;III)V"⟩
abbrev cX6_accuse : ByteArray := prog_8_method_3_code
def yX6_accuse : MethodName := ⟨RX6, "accuse", "(LOwedFalls$Suspects;LOwedFalls$Plan;IIIII)V"⟩
abbrev cX6_note : ByteArray := prog_8_method_4_code
def yX6_note : MethodName := ⟨RX6, "note", "(I)V"⟩
abbrev cX6_oddsOf : ByteArray := prog_8_method_5_code
def yX6_oddsOf : MethodName := ⟨RX6, "oddsOf", "(LOwedFalls$Plan;IZ)I"⟩
abbrev cX6_spreadChances : ByteArray := prog_8_method_6_code
def yX6_spreadChances : MethodName := ⟨RX6, "spreadChances", "(LOwedFalls$Plan;)I"⟩
abbrev cX6_commonDivisor : ByteArray := prog_8_method_7_code
def yX6_commonDivisor : MethodName := ⟨RX6, "commonDivisor", "(II)I"⟩
def RX7 : String := "OwedFalls$Ways"
def TX7 : u_T := fun k => match k with
  | _ => ("OwedFalls$Ways", "cost", "[I", true)
def tyX7 : Nat → FieldType := fun k => match k with
  | _ => .array .int
abbrev wsX70 : List Cond := u_ws RX7 TX7 1
theorem nmX7 : ∀ a, a < 1 → ∀ b, b < 1 → a ≠ b → (TX7 a).2.1 ≠ (TX7 b).2.1 := by decide +kernel
theorem tyX7_ok : ∀ k, k < 1 → parseFieldDescriptor (TX7 k).2.2.1 = some (tyX7 k) := by decide +kernel
abbrev cX7_init : ByteArray := prog_9_method_1_code
def yX7_init : MethodName := ⟨RX7, "<init>", "()V"⟩
abbrev cX7_measure : ByteArray := prog_9_method_2_code
def yX7_measure : MethodName := ⟨RX7, "measure", "(LOwedFalls$Plan;LOwedFalls$Moment;II)V"⟩
abbrev cX7_goBy : ByteArray := prog_9_method_3_code
def yX7_goBy : MethodName := ⟨RX7, "goBy", "(III)V"⟩
abbrev cX7_weight : ByteArray := prog_9_method_4_code
def yX7_weight : MethodName := ⟨RX7, "weight", "(LOwedFalls$Plan;LOwedFalls$Moment;I)I"⟩
abbrev cX7_dueFrom : ByteArray := prog_9_method_5_code
def yX7_dueFrom : MethodName := ⟨RX7, "dueFrom", "(I)I"⟩
abbrev cX7_stepsFrom : ByteArray := prog_9_method_6_code
def yX7_stepsFrom : MethodName := ⟨RX7, "stepsFrom", "(I)I"⟩
abbrev cX7_firstFrom : ByteArray := prog_9_method_7_code
def yX7_firstFrom : MethodName := ⟨RX7, "firstFrom", "(LOwedFalls$Plan;LOwedFalls$Moment;I)I"⟩
abbrev cX7_barsBetween : ByteArray := prog_9_method_8_code
def yX7_barsBetween : MethodName := ⟨RX7, "barsBetween", "(LOwedFalls$Plan;LOwedFalls$Moment;II)I"⟩
def RX8 : String := "OwedFalls"
def TX8 : u_T := fun k => match k with
  | 0 => ("OwedFalls", "reader", "LOwedFalls$Reader;", true)
  | 1 => ("OwedFalls", "ledger", "LOwedFalls$Ledger;", true)
  | 2 => ("OwedFalls", "images", "[LOwedFalls$Ledger;", true)
  | 3 => ("OwedFalls", "kept", "[Z", true)
  | 4 => ("OwedFalls", "ways", "LOwedFalls$Ways;", true)
  | 5 => ("OwedFalls", "payments", "LOwedFalls$Payments;", true)
  | 6 => ("OwedFalls", "rings", "LOwedFalls$Rings;", true)
  | 7 => ("OwedFalls", "suspects", "LOwedFalls$Suspects;", true)
  | 8 => ("OwedFalls", "plan", "LOwedFalls$Plan;", false)
  | 9 => ("OwedFalls", "draft", "LOwedFalls$Plan;", false)
  | _ => ("OwedFalls", "traced", "J", false)
def tyX8 : Nat → FieldType := fun k => match k with
  | 0 => .object "OwedFalls$Reader"
  | 1 => .object "OwedFalls$Ledger"
  | 2 => .array (.object "OwedFalls$Ledger")
  | 3 => .array .boolean
  | 4 => .object "OwedFalls$Ways"
  | 5 => .object "OwedFalls$Payments"
  | 6 => .object "OwedFalls$Rings"
  | 7 => .object "OwedFalls$Suspects"
  | 8 => .object "OwedFalls$Plan"
  | 9 => .object "OwedFalls$Plan"
  | _ => .long
abbrev wsX80 : List Cond := u_ws RX8 TX8 11
theorem nmX8 : ∀ a, a < 11 → ∀ b, b < 11 → a ≠ b → (TX8 a).2.1 ≠ (TX8 b).2.1 := by decide +kernel
theorem tyX8_ok : ∀ k, k < 11 → parseFieldDescriptor (TX8 k).2.2.1 = some (tyX8 k) := by decide +kernel
abbrev cX8_init : ByteArray := prog_1_method_1_code
def yX8_init : MethodName := ⟨RX8, "<init>", "()V"⟩
abbrev cX8_type : ByteArray := prog_1_method_2_code
def yX8_type : MethodName := ⟨RX8, "type", "(I)I"⟩
abbrev cX8_clear : ByteArray := prog_1_method_3_code
def yX8_clear : MethodName := ⟨RX8, "clear", "()I"⟩
abbrev cX8_house : ByteArray := prog_1_method_4_code
def yX8_house : MethodName := ⟨RX8, "house", "()I"⟩
abbrev cX8_stair : ByteArray := prog_1_method_5_code
def yX8_stair : MethodName := ⟨RX8, "stair", "(II)I"⟩
abbrev cX8_person : ByteArray := prog_1_method_6_code
def yX8_person : MethodName := ⟨RX8, "person", "(II)I"⟩
abbrev cX8_bond : ByteArray := prog_1_method_7_code
def yX8_bond : MethodName := ⟨RX8, "bond", "(II)I"⟩
abbrev cX8_falls : ByteArray := prog_1_method_8_code
def yX8_falls : MethodName := ⟨RX8, "falls", "(II)I"⟩
abbrev cX8_together : ByteArray := prog_1_method_9_code
def yX8_together : MethodName := ⟨RX8, "together", "(III)I"⟩
abbrev cX8_throwsDoll : ByteArray := prog_1_method_10_code
def yX8_throwsDoll : MethodName := ⟨RX8, "throwsDoll", "(I)I"⟩
abbrev cX8_sells : ByteArray := prog_1_method_11_code
def yX8_sells : MethodName := ⟨RX8, "sells", "(III)I"⟩
abbrev cX8_redeems : ByteArray := prog_1_method_12_code
def yX8_redeems : MethodName := ⟨RX8, "redeems", "(I)I"⟩
abbrev cX8_ends : ByteArray := prog_1_method_13_code
def yX8_ends : MethodName := ⟨RX8, "ends", "()I"⟩
abbrev cX8_undo : ByteArray := prog_1_method_14_code
def yX8_undo : MethodName := ⟨RX8, "undo", "()I"⟩
abbrev cX8_now : ByteArray := prog_1_method_15_code
def yX8_now : MethodName := ⟨RX8, "now", "(I)I"⟩
abbrev cX8_surest : ByteArray := prog_1_method_16_code
def yX8_surest : MethodName := ⟨RX8, "surest", "(III)I"⟩
abbrev cX8_bars : ByteArray := prog_1_method_17_code
def yX8_bars : MethodName := ⟨RX8, "bars", "(II)I"⟩
abbrev cX8_paid : ByteArray := prog_1_method_18_code
def yX8_paid : MethodName := ⟨RX8, "paid", "(II)I"⟩
abbrev cX8_coins : ByteArray := prog_1_method_19_code
def yX8_coins : MethodName := ⟨RX8, "coins", "(II)I"⟩
abbrev cX8_free : ByteArray := prog_1_method_20_code
def yX8_free : MethodName := ⟨RX8, "free", "(II)I"⟩
abbrev cX8_who : ByteArray := prog_1_method_21_code
def yX8_who : MethodName := ⟨RX8, "who", "(IIII)I"⟩
abbrev cX8_odds : ByteArray := prog_1_method_22_code
def yX8_odds : MethodName := ⟨RX8, "odds", "(II)I"⟩
abbrev cX8_mark : ByteArray := prog_1_method_23_code
def yX8_mark : MethodName := ⟨RX8, "mark", "(II)I"⟩
abbrev cX8_keep : ByteArray := prog_1_method_24_code
def yX8_keep : MethodName := ⟨RX8, "keep", "(I)I"⟩
abbrev cX8_back : ByteArray := prog_1_method_25_code
def yX8_back : MethodName := ⟨RX8, "back", "(I)I"⟩
abbrev cX8_count : ByteArray := prog_1_method_26_code
def yX8_count : MethodName := ⟨RX8, "count", "(I)I"⟩
abbrev cX8_trace : ByteArray := prog_1_method_27_code
def yX8_trace : MethodName := ⟨RX8, "trace", "()J"⟩
abbrev cX8_isFloor : ByteArray := prog_1_method_28_code
def yX8_isFloor : MethodName := ⟨RX8, "isFloor", "(I)Z"⟩
abbrev cX8_isAsked : ByteArray := prog_1_method_29_code
def yX8_isAsked : MethodName := ⟨RX8, "isAsked", "(I)Z"⟩
abbrev cX8_isImage : ByteArray := prog_1_method_30_code
def yX8_isImage : MethodName := ⟨RX8, "isImage", "(I)Z"⟩
abbrev cX8_bondAt : ByteArray := prog_1_method_31_code
def yX8_bondAt : MethodName := ⟨RX8, "bondAt", "(II)I"⟩
abbrev cX8_priceOf : ByteArray := prog_1_method_32_code
def yX8_priceOf : MethodName := ⟨RX8, "priceOf", "(I)I"⟩
abbrev cX8_dearest : ByteArray := prog_1_method_33_code
def yX8_dearest : MethodName := ⟨RX8, "dearest", "()I"⟩
abbrev cX8_stairsPaidOff : ByteArray := prog_1_method_34_code
def yX8_stairsPaidOff : MethodName := ⟨RX8, "stairsPaidOff", "()I"⟩
abbrev cX8_asStair : ByteArray := prog_1_method_35_code
def yX8_asStair : MethodName := ⟨RX8, "asStair", "(I)I"⟩
abbrev cX8_asMarble : ByteArray := prog_1_method_36_code
def yX8_asMarble : MethodName := ⟨RX8, "asMarble", "(I)I"⟩
abbrev cX8_asLadder : ByteArray := prog_1_method_37_code
def yX8_asLadder : MethodName := ⟨RX8, "asLadder", "(I)I"⟩
abbrev cX8_asChurch : ByteArray := prog_1_method_38_code
def yX8_asChurch : MethodName := ⟨RX8, "asChurch", "(I)I"⟩
abbrev cX8_asLift : ByteArray := prog_1_method_39_code
def yX8_asLift : MethodName := ⟨RX8, "asLift", "(I)I"⟩
abbrev cX8_asTower : ByteArray := prog_1_method_40_code
def yX8_asTower : MethodName := ⟨RX8, "asTower", "(I)I"⟩
def RX9 : String := "OwedFallsModel"
def TX9 : u_T := fun k => match k with
  | 0 => ("OwedFallsModel", "trace", "J", false)
  | 1 => ("OwedFallsModel", "text", "[I", true)
  | 2 => ("OwedFallsModel", "typed", "I", false)
  | 3 => ("OwedFallsModel", "told", "[I", true)
  | 4 => ("OwedFallsModel", "draft", "[I", true)
  | 5 => ("OwedFallsModel", "s", "[I", true)
  | 6 => ("OwedFallsModel", "images", "[I", true)
  | 7 => ("OwedFallsModel", "kept", "[Z", true)
  | 8 => ("OwedFallsModel", "at", "I", false)
  | 9 => ("OwedFallsModel", "sort", "I", false)
  | 10 => ("OwedFallsModel", "start", "I", false)
  | 11 => ("OwedFallsModel", "value", "I", false)
  | 12 => ("OwedFallsModel", "bonds", "[I", true)
  | 13 => ("OwedFallsModel", "ring", "[I", true)
  | 14 => ("OwedFallsModel", "least", "[I", true)
  | 15 => ("OwedFallsModel", "bill", "[I", true)
  | 16 => ("OwedFallsModel", "dues", "[I", true)
  | _ => ("OwedFallsModel", "spent", "[I", true)
def tyX9 : Nat → FieldType := fun k => match k with
  | 0 => .long
  | 1 => .array .int
  | 2 => .int
  | 3 => .array .int
  | 4 => .array .int
  | 5 => .array .int
  | 6 => .array .int
  | 7 => .array .boolean
  | 8 => .int
  | 9 => .int
  | 10 => .int
  | 11 => .int
  | 12 => .array .int
  | 13 => .array .int
  | 14 => .array .int
  | 15 => .array .int
  | 16 => .array .int
  | _ => .array .int
abbrev wsX90 : List Cond := u_ws RX9 TX9 18
theorem nmX9 : ∀ a, a < 18 → ∀ b, b < 18 → a ≠ b → (TX9 a).2.1 ≠ (TX9 b).2.1 := by decide +kernel
theorem tyX9_ok : ∀ k, k < 18 → parseFieldDescriptor (TX9 k).2.2.1 = some (tyX9 k) := by decide +kernel
abbrev cX9_init : ByteArray := prog_11_method_1_code
def yX9_init : MethodName := ⟨RX9, "<init>", "()V"⟩
abbrev cX9_in : ByteArray := prog_11_method_3_code
def yX9_in : MethodName := ⟨RX9, "in", "(III)Z"⟩
abbrev cX9_isStair : ByteArray := prog_11_method_4_code
def yX9_isStair : MethodName := ⟨RX9, "isStair", "(I)Z"⟩
abbrev cX9_isPerson : ByteArray := prog_11_method_5_code
def yX9_isPerson : MethodName := ⟨RX9, "isPerson", "(I)Z"⟩
abbrev cX9_isFloor : ByteArray := prog_11_method_6_code
def yX9_isFloor : MethodName := ⟨RX9, "isFloor", "(I)Z"⟩
abbrev cX9_type : ByteArray := prog_11_method_7_code
def yX9_type : MethodName := ⟨RX9, "type", "(I)I"⟩
abbrev cX9_clear : ByteArray := prog_11_method_8_code
def yX9_clear : MethodName := ⟨RX9, "clear", "()I"⟩
abbrev cX9_byteAt : ByteArray := prog_11_method_9_code
def yX9_byteAt : MethodName := ⟨RX9, "byteAt", "(I)I"⟩
abbrev cX9_isLetter : ByteArray := prog_11_method_10_code
def yX9_isLetter : MethodName := ⟨RX9, "isLetter", "(I)Z"⟩
abbrev cX9_isDigit : ByteArray := prog_11_method_11_code
def yX9_isDigit : MethodName := ⟨RX9, "isDigit", "(I)Z"⟩
abbrev cX9_token : ByteArray := prog_11_method_12_code
def yX9_token : MethodName := ⟨RX9, "token", "()V"⟩
abbrev cX9_number : ByteArray := prog_11_method_13_code
def yX9_number : MethodName := ⟨RX9, "number", "(III)Z"⟩
abbrev cX9_readsStair : ByteArray := prog_11_method_14_code
def yX9_readsStair : MethodName := ⟨RX9, "readsStair", "()Z"⟩
abbrev cX9_readsPerson : ByteArray := prog_11_method_15_code
def yX9_readsPerson : MethodName := ⟨RX9, "readsPerson", "()Z"⟩
abbrev cX9_once : ByteArray := prog_11_method_16_code
def yX9_once : MethodName := ⟨RX9, "once", "(II)Z"⟩
abbrev cX9_readsItem : ByteArray := prog_11_method_17_code
def yX9_readsItem : MethodName := ⟨RX9, "readsItem", "()Z"⟩
abbrev cX9_reads : ByteArray := prog_11_method_18_code
def yX9_reads : MethodName := ⟨RX9, "reads", "()Z"⟩
abbrev cX9_tells : ByteArray := prog_11_method_19_code
def yX9_tells : MethodName := ⟨RX9, "tells", "()V"⟩
abbrev cX9_house : ByteArray := prog_11_method_20_code
def yX9_house : MethodName := ⟨RX9, "house", "()I"⟩
abbrev cX9_price : ByteArray := prog_11_method_21_code
def yX9_price : MethodName := ⟨RX9, "price", "(I)I"⟩
abbrev cX9_stair : ByteArray := prog_11_method_22_code
def yX9_stair : MethodName := ⟨RX9, "stair", "(II)I"⟩
abbrev cX9_person : ByteArray := prog_11_method_23_code
def yX9_person : MethodName := ⟨RX9, "person", "(II)I"⟩
abbrev cX9_bond : ByteArray := prog_11_method_24_code
def yX9_bond : MethodName := ⟨RX9, "bond", "(II)I"⟩
abbrev cX9_keeps : ByteArray := prog_11_method_25_code
def yX9_keeps : MethodName := ⟨RX9, "keeps", "()V"⟩
abbrev cX9_counts : ByteArray := prog_11_method_26_code
def yX9_counts : MethodName := ⟨RX9, "counts", "(I)I"⟩
abbrev cX9_pays : ByteArray := prog_11_method_27_code
def yX9_pays : MethodName := ⟨RX9, "pays", "(III)I"⟩
abbrev cX9_falls : ByteArray := prog_11_method_28_code
def yX9_falls : MethodName := ⟨RX9, "falls", "(II)I"⟩
abbrev cX9_together : ByteArray := prog_11_method_29_code
def yX9_together : MethodName := ⟨RX9, "together", "(III)I"⟩
abbrev cX9_throwsDoll : ByteArray := prog_11_method_30_code
def yX9_throwsDoll : MethodName := ⟨RX9, "throwsDoll", "(I)I"⟩
abbrev cX9_sells : ByteArray := prog_11_method_31_code
def yX9_sells : MethodName := ⟨RX9, "sells", "(III)I"⟩
abbrev cX9_redeems : ByteArray := prog_11_method_32_code
def yX9_redeems : MethodName := ⟨RX9, "redeems", "(I)I"⟩
abbrev cX9_all : ByteArray := prog_11_method_33_code
def yX9_all : MethodName := ⟨RX9, "all", "()I"⟩
abbrev cX9_more : ByteArray := prog_11_method_34_code
def yX9_more : MethodName := ⟨RX9, "more", "(II)I"⟩
abbrev cX9_ends : ByteArray := prog_11_method_35_code
def yX9_ends : MethodName := ⟨RX9, "ends", "()I"⟩
abbrev cX9_undo : ByteArray := prog_11_method_36_code
def yX9_undo : MethodName := ⟨RX9, "undo", "()I"⟩
abbrev cX9_dear : ByteArray := prog_11_method_37_code
def yX9_dear : MethodName := ⟨RX9, "dear", "()I"⟩
abbrev cX9_finds : ByteArray := prog_11_method_38_code
def yX9_finds : MethodName := ⟨RX9, "finds", "(I)Z"⟩
abbrev cX9_struck : ByteArray := prog_11_method_39_code
def yX9_struck : MethodName := ⟨RX9, "struck", "()I"⟩
abbrev cX9_now : ByteArray := prog_11_method_40_code
def yX9_now : MethodName := ⟨RX9, "now", "(I)I"⟩
abbrev cX9_other : ByteArray := prog_11_method_41_code
def yX9_other : MethodName := ⟨RX9, "other", "(II)I"⟩
abbrev cX9_weight : ByteArray := prog_11_method_42_code
def yX9_weight : MethodName := ⟨RX9, "weight", "(I)I"⟩
abbrev cX9_lays : ByteArray := prog_11_method_43_code
def yX9_lays : MethodName := ⟨RX9, "lays", "(I)V"⟩
abbrev cX9_surest : ByteArray := prog_11_method_44_code
def yX9_surest : MethodName := ⟨RX9, "surest", "(III)I"⟩
abbrev cX9_isWay : ByteArray := prog_11_method_45_code
def yX9_isWay : MethodName := ⟨RX9, "isWay", "(III)Z"⟩
abbrev cX9_bars : ByteArray := prog_11_method_46_code
def yX9_bars : MethodName := ⟨RX9, "bars", "(II)I"⟩
abbrev cX9_better : ByteArray := prog_11_method_47_code
def yX9_better : MethodName := ⟨RX9, "better", "(II)I"⟩
abbrev cX9_paid : ByteArray := prog_11_method_48_code
def yX9_paid : MethodName := ⟨RX9, "paid", "(II)I"⟩
abbrev cX9_dueBy : ByteArray := prog_11_method_49_code
def yX9_dueBy : MethodName := ⟨RX9, "dueBy", "(II)I"⟩
abbrev cX9_coins : ByteArray := prog_11_method_50_code
def yX9_coins : MethodName := ⟨RX9, "coins", "(II)I"⟩
abbrev cX9_free : ByteArray := prog_11_method_51_code
def yX9_free : MethodName := ⟨RX9, "free", "(II)I"⟩
abbrev cX9_who : ByteArray := prog_11_method_52_code
def yX9_who : MethodName := ⟨RX9, "who", "(IIII)I"⟩
abbrev cX9_odds : ByteArray := prog_11_method_53_code
def yX9_odds : MethodName := ⟨RX9, "odds", "(II)I"⟩
abbrev cX9_mark : ByteArray := prog_11_method_54_code
def yX9_mark : MethodName := ⟨RX9, "mark", "(II)I"⟩
abbrev cX9_keep : ByteArray := prog_11_method_55_code
def yX9_keep : MethodName := ⟨RX9, "keep", "(I)I"⟩
abbrev cX9_back : ByteArray := prog_11_method_56_code
def yX9_back : MethodName := ⟨RX9, "back", "(I)I"⟩
abbrev cX9_count : ByteArray := prog_11_method_57_code
def yX9_count : MethodName := ⟨RX9, "count", "(I)I"⟩
abbrev cX9_trace : ByteArray := prog_11_method_58_code
def yX9_trace : MethodName := ⟨RX9, "trace", "()J"⟩
def RJ9 : String := "java/lang/Math"
def TJ9 : u_T := fun k => match k with
  | _ => ("", "", "", false)
def tyJ9 : Nat → FieldType := fun k => match k with
  | _ => .int
abbrev wsJ90 : List Cond := u_ws RJ9 TJ9 0
theorem nmJ9 : ∀ a, a < 0 → ∀ b, b < 0 → a ≠ b → (TJ9 a).2.1 ≠ (TJ9 b).2.1 := by decide +kernel
theorem tyJ9_ok : ∀ k, k < 0 → parseFieldDescriptor (TJ9 k).2.2.1 = some (tyJ9 k) := by decide +kernel
abbrev cJ9_max_7cf53 : ByteArray := prog_12_method_65_code
def yJ9_max_7cf53 : MethodName := ⟨RJ9, "max", "(II)I"⟩
abbrev cJ9_min_7cf53 : ByteArray := prog_12_method_69_code
def yJ9_min_7cf53 : MethodName := ⟨RJ9, "min", "(II)I"⟩
def RJ10 : String := "java/lang/System"
def TJ10 : u_T := fun k => match k with
  | _ => ("", "", "", false)
def tyJ10 : Nat → FieldType := fun k => match k with
  | _ => .int
abbrev wsJ100 : List Cond := u_ws RJ10 TJ10 0
theorem nmJ10 : ∀ a, a < 0 → ∀ b, b < 0 → a ≠ b → (TJ10 a).2.1 ≠ (TJ10 b).2.1 := by decide +kernel
theorem tyJ10_ok : ∀ k, k < 0 → parseFieldDescriptor (TJ10 k).2.2.1 = some (tyJ10 k) := by decide +kernel
def RJ7 : String := "java/util/Arrays"
def TJ7 : u_T := fun k => match k with
  | _ => ("", "", "", false)
def tyJ7 : Nat → FieldType := fun k => match k with
  | _ => .int
abbrev wsJ70 : List Cond := u_ws RJ7 TJ7 0
theorem nmJ7 : ∀ a, a < 0 → ∀ b, b < 0 → a ≠ b → (TJ7 a).2.1 ≠ (TJ7 b).2.1 := by decide +kernel
theorem tyJ7_ok : ∀ k, k < 0 → parseFieldDescriptor (TJ7 k).2.2.1 = some (tyJ7 k) := by decide +kernel
abbrev cJ7_fill_53178 : ByteArray := prog_14_method_103_code
def yJ7_fill_53178 : MethodName := ⟨RJ7, "fill", "([II)V"⟩
def RL : String := "OwedFallsLaw"
abbrev cL_law : ByteArray := code
def yL_law : MethodName := ⟨RL, "law", "([I)Z"⟩
theorem inX0 : ∀ w ∈ wsX00, w ∈ lw_tbl := by decide +kernel
theorem inX1 : ∀ w ∈ wsX10, w ∈ lw_tbl := by decide +kernel
theorem inX2 : ∀ w ∈ wsX20, w ∈ lw_tbl := by decide +kernel
theorem inX3 : ∀ w ∈ wsX30, w ∈ lw_tbl := by decide +kernel
theorem inX4 : ∀ w ∈ wsX40, w ∈ lw_tbl := by decide +kernel
theorem inX5 : ∀ w ∈ wsX50, w ∈ lw_tbl := by decide +kernel
theorem inX6 : ∀ w ∈ wsX60, w ∈ lw_tbl := by decide +kernel
theorem inX7 : ∀ w ∈ wsX70, w ∈ lw_tbl := by decide +kernel
theorem inX8 : ∀ w ∈ wsX80, w ∈ lw_tbl := by decide +kernel
theorem inX9 : ∀ w ∈ wsX90, w ∈ lw_tbl := by decide +kernel
theorem inJ9 : ∀ w ∈ wsJ90, w ∈ lw_tbl := by decide +kernel
theorem inJ10 : ∀ w ∈ wsJ100, w ∈ lw_tbl := by decide +kernel
theorem inJ7 : ∀ w ∈ wsJ70, w ∈ lw_tbl := by decide +kernel
abbrev vwCl : List vw_C := [(RX0, TX0, 4), (RX1, TX1, 5), (RX2, TX2, 4), (RX3, TX3, 13), (RX4, TX4, 6), (RX5, TX5, 5), (RX6, TX6, 4), (RX7, TX7, 1), (RX8, TX8, 11), (RX9, TX9, 18)]
end
section
theorem dX0_init_0 : decode cX0_init 0 = .ok (.aload_n 0, 1) := by decide +kernel
theorem dX0_init_1 : decode cX0_init 1 = .ok (.invokespecial 3, 3) := by decide +kernel
theorem dX0_init_4 : decode cX0_init 4 = .ok (.aload_n 0, 1) := by decide +kernel
theorem dX0_init_5 : decode cX0_init 5 = .ok (.new 9, 3) := by decide +kernel
theorem dX0_init_8 : decode cX0_init 8 = .ok (.dup, 1) := by decide +kernel
theorem dX0_init_9 : decode cX0_init 9 = .ok (.invokespecial 11, 3) := by decide +kernel
theorem dX0_init_12 : decode cX0_init 12 = .ok (.putfield 12, 3) := by decide +kernel
theorem dX0_init_15 : decode cX0_init 15 = .ok (.aload_n 0, 1) := by decide +kernel
theorem dX0_init_16 : decode cX0_init 16 = .ok (.bipush 10, 2) := by decide +kernel
theorem dX0_init_18 : decode cX0_init 18 = .ok (.anewarray 9, 3) := by decide +kernel
theorem dX0_init_21 : decode cX0_init 21 = .ok (.putfield 18, 3) := by decide +kernel
theorem dX0_init_24 : decode cX0_init 24 = .ok (.iconst 0, 1) := by decide +kernel
theorem dX0_init_25 : decode cX0_init 25 = .ok (.istore_n 1, 1) := by decide +kernel
theorem dX0_init_26 : decode cX0_init 26 = .ok (.iload_n 1, 1) := by decide +kernel
theorem dX0_init_27 : decode cX0_init 27 = .ok (.bipush 10, 2) := by decide +kernel
theorem dX0_init_29 : decode cX0_init 29 = .ok (.if_icmp .ge 22, 3) := by decide +kernel
theorem dX0_init_32 : decode cX0_init 32 = .ok (.aload_n 0, 1) := by decide +kernel
theorem dX0_init_33 : decode cX0_init 33 = .ok (.getfield 18, 3) := by decide +kernel
theorem dX0_init_36 : decode cX0_init 36 = .ok (.iload_n 1, 1) := by decide +kernel
theorem dX0_init_37 : decode cX0_init 37 = .ok (.new 9, 3) := by decide +kernel
theorem dX0_init_40 : decode cX0_init 40 = .ok (.dup, 1) := by decide +kernel
theorem dX0_init_41 : decode cX0_init 41 = .ok (.invokespecial 11, 3) := by decide +kernel
theorem dX0_init_44 : decode cX0_init 44 = .ok (.aastore, 1) := by decide +kernel
theorem dX0_init_45 : decode cX0_init 45 = .ok (.iinc 1 1, 3) := by decide +kernel
theorem dX0_init_48 : decode cX0_init 48 = .ok (.goto (-22), 3) := by decide +kernel
theorem dX0_init_51 : decode cX0_init 51 = .ok (.aload_n 0, 1) := by decide +kernel
theorem dX0_init_52 : decode cX0_init 52 = .ok (.iconst 0, 1) := by decide +kernel
theorem dX0_init_53 : decode cX0_init 53 = .ok (.putfield 22, 3) := by decide +kernel
theorem dX0_init_56 : decode cX0_init 56 = .ok (.aload_n 0, 1) := by decide +kernel
theorem dX0_init_57 : decode cX0_init 57 = .ok (.iconst 0, 1) := by decide +kernel
theorem dX0_init_58 : decode cX0_init 58 = .ok (.putfield 26, 3) := by decide +kernel
theorem dX0_init_61 : decode cX0_init 61 = .ok (.return_, 1) := by decide +kernel
theorem dX0_begin_0 : decode cX0_begin 0 = .ok (.aload_n 0, 1) := by decide +kernel
theorem dX0_begin_1 : decode cX0_begin 1 = .ok (.getfield 12, 3) := by decide +kernel
theorem dX0_begin_4 : decode cX0_begin 4 = .ok (.aload_n 1, 1) := by decide +kernel
theorem dX0_begin_5 : decode cX0_begin 5 = .ok (.invokevirtual 29, 3) := by decide +kernel
theorem dX0_begin_8 : decode cX0_begin 8 = .ok (.aload_n 0, 1) := by decide +kernel
theorem dX0_begin_9 : decode cX0_begin 9 = .ok (.iconst 0, 1) := by decide +kernel
theorem dX0_begin_10 : decode cX0_begin 10 = .ok (.putfield 22, 3) := by decide +kernel
theorem dX0_begin_13 : decode cX0_begin 13 = .ok (.aload_n 0, 1) := by decide +kernel
theorem dX0_begin_14 : decode cX0_begin 14 = .ok (.iconst 0, 1) := by decide +kernel
theorem dX0_begin_15 : decode cX0_begin 15 = .ok (.putfield 26, 3) := by decide +kernel
theorem dX0_begin_18 : decode cX0_begin 18 = .ok (.return_, 1) := by decide +kernel
theorem dX0_remember_0 : decode cX0_remember 0 = .ok (.aload_n 0, 1) := by decide +kernel
theorem dX0_remember_1 : decode cX0_remember 1 = .ok (.getfield 18, 3) := by decide +kernel
theorem dX0_remember_4 : decode cX0_remember 4 = .ok (.aload_n 0, 1) := by decide +kernel
theorem dX0_remember_5 : decode cX0_remember 5 = .ok (.getfield 26, 3) := by decide +kernel
theorem dX0_remember_8 : decode cX0_remember 8 = .ok (.aaload, 1) := by decide +kernel
theorem dX0_remember_9 : decode cX0_remember 9 = .ok (.aload_n 0, 1) := by decide +kernel
theorem dX0_remember_10 : decode cX0_remember 10 = .ok (.getfield 12, 3) := by decide +kernel
theorem dX0_remember_13 : decode cX0_remember 13 = .ok (.invokevirtual 33, 3) := by decide +kernel
theorem dX0_remember_16 : decode cX0_remember 16 = .ok (.aload_n 0, 1) := by decide +kernel
theorem dX0_remember_17 : decode cX0_remember 17 = .ok (.aload_n 0, 1) := by decide +kernel
theorem dX0_remember_18 : decode cX0_remember 18 = .ok (.getfield 26, 3) := by decide +kernel
theorem dX0_remember_21 : decode cX0_remember 21 = .ok (.iconst 1, 1) := by decide +kernel
theorem dX0_remember_22 : decode cX0_remember 22 = .ok (.iadd, 1) := by decide +kernel
theorem dX0_remember_23 : decode cX0_remember 23 = .ok (.bipush 10, 2) := by decide +kernel
theorem dX0_remember_25 : decode cX0_remember 25 = .ok (.if_icmp .ge 12, 3) := by decide +kernel
theorem dX0_remember_28 : decode cX0_remember 28 = .ok (.aload_n 0, 1) := by decide +kernel
theorem dX0_remember_29 : decode cX0_remember 29 = .ok (.getfield 26, 3) := by decide +kernel
theorem dX0_remember_32 : decode cX0_remember 32 = .ok (.iconst 1, 1) := by decide +kernel
theorem dX0_remember_33 : decode cX0_remember 33 = .ok (.iadd, 1) := by decide +kernel
theorem dX0_remember_34 : decode cX0_remember 34 = .ok (.goto 4, 3) := by decide +kernel
theorem dX0_remember_37 : decode cX0_remember 37 = .ok (.iconst 0, 1) := by decide +kernel
theorem dX0_remember_38 : decode cX0_remember 38 = .ok (.putfield 26, 3) := by decide +kernel
theorem dX0_remember_41 : decode cX0_remember 41 = .ok (.aload_n 0, 1) := by decide +kernel
theorem dX0_remember_42 : decode cX0_remember 42 = .ok (.bipush 10, 2) := by decide +kernel
theorem dX0_remember_44 : decode cX0_remember 44 = .ok (.aload_n 0, 1) := by decide +kernel
theorem dX0_remember_45 : decode cX0_remember 45 = .ok (.getfield 22, 3) := by decide +kernel
theorem dX0_remember_48 : decode cX0_remember 48 = .ok (.iconst 1, 1) := by decide +kernel
theorem dX0_remember_49 : decode cX0_remember 49 = .ok (.iadd, 1) := by decide +kernel
theorem dX0_remember_50 : decode cX0_remember 50 = .ok (.invokestatic 37, 3) := by decide +kernel
theorem dX0_remember_53 : decode cX0_remember 53 = .ok (.putfield 22, 3) := by decide +kernel
theorem dX0_remember_56 : decode cX0_remember 56 = .ok (.return_, 1) := by decide +kernel
theorem dX0_takeBack_0 : decode cX0_takeBack 0 = .ok (.aload_n 0, 1) := by decide +kernel
theorem dX0_takeBack_1 : decode cX0_takeBack 1 = .ok (.getfield 22, 3) := by decide +kernel
theorem dX0_takeBack_4 : decode cX0_takeBack 4 = .ok (.ifCond .ne 5, 3) := by decide +kernel
theorem dX0_takeBack_7 : decode cX0_takeBack 7 = .ok (.iconst 0, 1) := by decide +kernel
theorem dX0_takeBack_8 : decode cX0_takeBack 8 = .ok (.ireturn, 1) := by decide +kernel
theorem dX0_takeBack_9 : decode cX0_takeBack 9 = .ok (.aload_n 0, 1) := by decide +kernel
theorem dX0_takeBack_10 : decode cX0_takeBack 10 = .ok (.aload_n 0, 1) := by decide +kernel
theorem dX0_takeBack_11 : decode cX0_takeBack 11 = .ok (.getfield 26, 3) := by decide +kernel
theorem dX0_takeBack_14 : decode cX0_takeBack 14 = .ok (.ifCond .le 12, 3) := by decide +kernel
theorem dX0_takeBack_17 : decode cX0_takeBack 17 = .ok (.aload_n 0, 1) := by decide +kernel
theorem dX0_takeBack_18 : decode cX0_takeBack 18 = .ok (.getfield 26, 3) := by decide +kernel
theorem dX0_takeBack_21 : decode cX0_takeBack 21 = .ok (.iconst 1, 1) := by decide +kernel
theorem dX0_takeBack_22 : decode cX0_takeBack 22 = .ok (.isub, 1) := by decide +kernel
theorem dX0_takeBack_23 : decode cX0_takeBack 23 = .ok (.goto 5, 3) := by decide +kernel
theorem dX0_takeBack_26 : decode cX0_takeBack 26 = .ok (.bipush 9, 2) := by decide +kernel
theorem dX0_takeBack_28 : decode cX0_takeBack 28 = .ok (.putfield 26, 3) := by decide +kernel
theorem dX0_takeBack_31 : decode cX0_takeBack 31 = .ok (.aload_n 0, 1) := by decide +kernel
theorem dX0_takeBack_32 : decode cX0_takeBack 32 = .ok (.getfield 12, 3) := by decide +kernel
theorem dX0_takeBack_35 : decode cX0_takeBack 35 = .ok (.aload_n 0, 1) := by decide +kernel
theorem dX0_takeBack_36 : decode cX0_takeBack 36 = .ok (.getfield 18, 3) := by decide +kernel
theorem dX0_takeBack_39 : decode cX0_takeBack 39 = .ok (.aload_n 0, 1) := by decide +kernel
theorem dX0_takeBack_40 : decode cX0_takeBack 40 = .ok (.getfield 26, 3) := by decide +kernel
theorem dX0_takeBack_43 : decode cX0_takeBack 43 = .ok (.aaload, 1) := by decide +kernel
theorem dX0_takeBack_44 : decode cX0_takeBack 44 = .ok (.invokevirtual 33, 3) := by decide +kernel
theorem dX0_takeBack_47 : decode cX0_takeBack 47 = .ok (.aload_n 0, 1) := by decide +kernel
theorem dX0_takeBack_48 : decode cX0_takeBack 48 = .ok (.dup, 1) := by decide +kernel
theorem dX0_takeBack_49 : decode cX0_takeBack 49 = .ok (.getfield 22, 3) := by decide +kernel
theorem dX0_takeBack_52 : decode cX0_takeBack 52 = .ok (.iconst 1, 1) := by decide +kernel
theorem dX0_takeBack_53 : decode cX0_takeBack 53 = .ok (.isub, 1) := by decide +kernel
theorem dX0_takeBack_54 : decode cX0_takeBack 54 = .ok (.putfield 22, 3) := by decide +kernel
theorem dX0_takeBack_57 : decode cX0_takeBack 57 = .ok (.iconst 1, 1) := by decide +kernel
theorem dX0_takeBack_58 : decode cX0_takeBack 58 = .ok (.ireturn, 1) := by decide +kernel
theorem dX0_copyFrom_0 : decode cX0_copyFrom 0 = .ok (.aload_n 0, 1) := by decide +kernel
theorem dX0_copyFrom_1 : decode cX0_copyFrom 1 = .ok (.getfield 12, 3) := by decide +kernel
theorem dX0_copyFrom_4 : decode cX0_copyFrom 4 = .ok (.aload_n 1, 1) := by decide +kernel
theorem dX0_copyFrom_5 : decode cX0_copyFrom 5 = .ok (.getfield 12, 3) := by decide +kernel
theorem dX0_copyFrom_8 : decode cX0_copyFrom 8 = .ok (.invokevirtual 33, 3) := by decide +kernel
theorem dX0_copyFrom_11 : decode cX0_copyFrom 11 = .ok (.iconst 0, 1) := by decide +kernel
theorem dX0_copyFrom_12 : decode cX0_copyFrom 12 = .ok (.istore_n 2, 1) := by decide +kernel
theorem dX0_copyFrom_13 : decode cX0_copyFrom 13 = .ok (.iload_n 2, 1) := by decide +kernel
theorem dX0_copyFrom_14 : decode cX0_copyFrom 14 = .ok (.bipush 10, 2) := by decide +kernel
theorem dX0_copyFrom_16 : decode cX0_copyFrom 16 = .ok (.if_icmp .ge 24, 3) := by decide +kernel
theorem dX0_copyFrom_19 : decode cX0_copyFrom 19 = .ok (.aload_n 0, 1) := by decide +kernel
theorem dX0_copyFrom_20 : decode cX0_copyFrom 20 = .ok (.getfield 18, 3) := by decide +kernel
theorem dX0_copyFrom_23 : decode cX0_copyFrom 23 = .ok (.iload_n 2, 1) := by decide +kernel
theorem dX0_copyFrom_24 : decode cX0_copyFrom 24 = .ok (.aaload, 1) := by decide +kernel
theorem dX0_copyFrom_25 : decode cX0_copyFrom 25 = .ok (.aload_n 1, 1) := by decide +kernel
theorem dX0_copyFrom_26 : decode cX0_copyFrom 26 = .ok (.getfield 18, 3) := by decide +kernel
theorem dX0_copyFrom_29 : decode cX0_copyFrom 29 = .ok (.iload_n 2, 1) := by decide +kernel
theorem dX0_copyFrom_30 : decode cX0_copyFrom 30 = .ok (.aaload, 1) := by decide +kernel
theorem dX0_copyFrom_31 : decode cX0_copyFrom 31 = .ok (.invokevirtual 33, 3) := by decide +kernel
theorem dX0_copyFrom_34 : decode cX0_copyFrom 34 = .ok (.iinc 2 1, 3) := by decide +kernel
theorem dX0_copyFrom_37 : decode cX0_copyFrom 37 = .ok (.goto (-24), 3) := by decide +kernel
theorem dX0_copyFrom_40 : decode cX0_copyFrom 40 = .ok (.aload_n 0, 1) := by decide +kernel
theorem dX0_copyFrom_41 : decode cX0_copyFrom 41 = .ok (.aload_n 1, 1) := by decide +kernel
theorem dX0_copyFrom_42 : decode cX0_copyFrom 42 = .ok (.getfield 22, 3) := by decide +kernel
theorem dX0_copyFrom_45 : decode cX0_copyFrom 45 = .ok (.putfield 22, 3) := by decide +kernel
theorem dX0_copyFrom_48 : decode cX0_copyFrom 48 = .ok (.aload_n 0, 1) := by decide +kernel
theorem dX0_copyFrom_49 : decode cX0_copyFrom 49 = .ok (.aload_n 1, 1) := by decide +kernel
theorem dX0_copyFrom_50 : decode cX0_copyFrom 50 = .ok (.getfield 26, 3) := by decide +kernel
theorem dX0_copyFrom_53 : decode cX0_copyFrom 53 = .ok (.putfield 26, 3) := by decide +kernel
theorem dX0_copyFrom_56 : decode cX0_copyFrom 56 = .ok (.return_, 1) := by decide +kernel
theorem dX1_init_0 : decode cX1_init 0 = .ok (.aload_n 0, 1) := by decide +kernel
theorem dX1_init_1 : decode cX1_init 1 = .ok (.invokespecial 3, 3) := by decide +kernel
theorem dX1_init_4 : decode cX1_init 4 = .ok (.aload_n 0, 1) := by decide +kernel
theorem dX1_init_5 : decode cX1_init 5 = .ok (.bipush 7, 2) := by decide +kernel
theorem dX1_init_7 : decode cX1_init 7 = .ok (.newarray .int, 2) := by decide +kernel
theorem dX1_init_9 : decode cX1_init 9 = .ok (.putfield 9, 3) := by decide +kernel
theorem dX1_init_12 : decode cX1_init 12 = .ok (.aload_n 0, 1) := by decide +kernel
theorem dX1_init_13 : decode cX1_init 13 = .ok (.bipush 7, 2) := by decide +kernel
theorem dX1_init_15 : decode cX1_init 15 = .ok (.newarray .int, 2) := by decide +kernel
theorem dX1_init_17 : decode cX1_init 17 = .ok (.putfield 15, 3) := by decide +kernel
theorem dX1_init_20 : decode cX1_init 20 = .ok (.aload_n 0, 1) := by decide +kernel
theorem dX1_init_21 : decode cX1_init 21 = .ok (.bipush 49, 2) := by decide +kernel
theorem dX1_init_23 : decode cX1_init 23 = .ok (.newarray .int, 2) := by decide +kernel
theorem dX1_init_25 : decode cX1_init 25 = .ok (.putfield 18, 3) := by decide +kernel
theorem dX1_init_28 : decode cX1_init 28 = .ok (.aload_n 0, 1) := by decide +kernel
theorem dX1_init_29 : decode cX1_init 29 = .ok (.iconst 0, 1) := by decide +kernel
theorem dX1_init_30 : decode cX1_init 30 = .ok (.putfield 21, 3) := by decide +kernel
theorem dX1_init_33 : decode cX1_init 33 = .ok (.aload_n 0, 1) := by decide +kernel
theorem dX1_init_34 : decode cX1_init 34 = .ok (.iconst 0, 1) := by decide +kernel
theorem dX1_init_35 : decode cX1_init 35 = .ok (.putfield 25, 3) := by decide +kernel
theorem dX1_init_38 : decode cX1_init 38 = .ok (.return_, 1) := by decide +kernel
theorem dX1_begin_0 : decode cX1_begin 0 = .ok (.aload_n 1, 1) := by decide +kernel
theorem dX1_begin_1 : decode cX1_begin 1 = .ok (.getfield 28, 3) := by decide +kernel
theorem dX1_begin_4 : decode cX1_begin 4 = .ok (.iconst 0, 1) := by decide +kernel
theorem dX1_begin_5 : decode cX1_begin 5 = .ok (.aload_n 0, 1) := by decide +kernel
theorem dX1_begin_6 : decode cX1_begin 6 = .ok (.getfield 9, 3) := by decide +kernel
theorem dX1_begin_9 : decode cX1_begin 9 = .ok (.iconst 0, 1) := by decide +kernel
theorem dX1_begin_10 : decode cX1_begin 10 = .ok (.bipush 7, 2) := by decide +kernel
theorem dX1_begin_12 : decode cX1_begin 12 = .ok (.invokestatic 33, 3) := by decide +kernel
theorem dX1_begin_15 : decode cX1_begin 15 = .ok (.aload_n 0, 1) := by decide +kernel
theorem dX1_begin_16 : decode cX1_begin 16 = .ok (.getfield 15, 3) := by decide +kernel
theorem dX1_begin_19 : decode cX1_begin 19 = .ok (.iconst 0, 1) := by decide +kernel
theorem dX1_begin_20 : decode cX1_begin 20 = .ok (.invokestatic 39, 3) := by decide +kernel
theorem dX1_begin_23 : decode cX1_begin 23 = .ok (.aload_n 0, 1) := by decide +kernel
theorem dX1_begin_24 : decode cX1_begin 24 = .ok (.getfield 18, 3) := by decide +kernel
theorem dX1_begin_27 : decode cX1_begin 27 = .ok (.iconst 0, 1) := by decide +kernel
theorem dX1_begin_28 : decode cX1_begin 28 = .ok (.invokestatic 39, 3) := by decide +kernel
theorem dX1_begin_31 : decode cX1_begin 31 = .ok (.aload_n 0, 1) := by decide +kernel
theorem dX1_begin_32 : decode cX1_begin 32 = .ok (.iconst 0, 1) := by decide +kernel
theorem dX1_begin_33 : decode cX1_begin 33 = .ok (.putfield 21, 3) := by decide +kernel
theorem dX1_begin_36 : decode cX1_begin 36 = .ok (.aload_n 0, 1) := by decide +kernel
theorem dX1_begin_37 : decode cX1_begin 37 = .ok (.iconst 0, 1) := by decide +kernel
theorem dX1_begin_38 : decode cX1_begin 38 = .ok (.putfield 25, 3) := by decide +kernel
theorem dX1_begin_41 : decode cX1_begin 41 = .ok (.return_, 1) := by decide +kernel
theorem dX1_copyFrom_0 : decode cX1_copyFrom 0 = .ok (.aload_n 1, 1) := by decide +kernel
theorem dX1_copyFrom_1 : decode cX1_copyFrom 1 = .ok (.getfield 9, 3) := by decide +kernel
theorem dX1_copyFrom_4 : decode cX1_copyFrom 4 = .ok (.iconst 0, 1) := by decide +kernel
theorem dX1_copyFrom_5 : decode cX1_copyFrom 5 = .ok (.aload_n 0, 1) := by decide +kernel
theorem dX1_copyFrom_6 : decode cX1_copyFrom 6 = .ok (.getfield 9, 3) := by decide +kernel
theorem dX1_copyFrom_9 : decode cX1_copyFrom 9 = .ok (.iconst 0, 1) := by decide +kernel
theorem dX1_copyFrom_10 : decode cX1_copyFrom 10 = .ok (.bipush 7, 2) := by decide +kernel
theorem dX1_copyFrom_12 : decode cX1_copyFrom 12 = .ok (.invokestatic 33, 3) := by decide +kernel
theorem dX1_copyFrom_15 : decode cX1_copyFrom 15 = .ok (.aload_n 1, 1) := by decide +kernel
theorem dX1_copyFrom_16 : decode cX1_copyFrom 16 = .ok (.getfield 15, 3) := by decide +kernel
theorem dX1_copyFrom_19 : decode cX1_copyFrom 19 = .ok (.iconst 0, 1) := by decide +kernel
theorem dX1_copyFrom_20 : decode cX1_copyFrom 20 = .ok (.aload_n 0, 1) := by decide +kernel
theorem dX1_copyFrom_21 : decode cX1_copyFrom 21 = .ok (.getfield 15, 3) := by decide +kernel
theorem dX1_copyFrom_24 : decode cX1_copyFrom 24 = .ok (.iconst 0, 1) := by decide +kernel
theorem dX1_copyFrom_25 : decode cX1_copyFrom 25 = .ok (.bipush 7, 2) := by decide +kernel
theorem dX1_copyFrom_27 : decode cX1_copyFrom 27 = .ok (.invokestatic 33, 3) := by decide +kernel
theorem dX1_copyFrom_30 : decode cX1_copyFrom 30 = .ok (.aload_n 1, 1) := by decide +kernel
theorem dX1_copyFrom_31 : decode cX1_copyFrom 31 = .ok (.getfield 18, 3) := by decide +kernel
theorem dX1_copyFrom_34 : decode cX1_copyFrom 34 = .ok (.iconst 0, 1) := by decide +kernel
theorem dX1_copyFrom_35 : decode cX1_copyFrom 35 = .ok (.aload_n 0, 1) := by decide +kernel
theorem dX1_copyFrom_36 : decode cX1_copyFrom 36 = .ok (.getfield 18, 3) := by decide +kernel
theorem dX1_copyFrom_39 : decode cX1_copyFrom 39 = .ok (.iconst 0, 1) := by decide +kernel
theorem dX1_copyFrom_40 : decode cX1_copyFrom 40 = .ok (.bipush 49, 2) := by decide +kernel
theorem dX1_copyFrom_42 : decode cX1_copyFrom 42 = .ok (.invokestatic 33, 3) := by decide +kernel
theorem dX1_copyFrom_45 : decode cX1_copyFrom 45 = .ok (.aload_n 0, 1) := by decide +kernel
theorem dX1_copyFrom_46 : decode cX1_copyFrom 46 = .ok (.aload_n 1, 1) := by decide +kernel
theorem dX1_copyFrom_47 : decode cX1_copyFrom 47 = .ok (.getfield 21, 3) := by decide +kernel
theorem dX1_copyFrom_50 : decode cX1_copyFrom 50 = .ok (.putfield 21, 3) := by decide +kernel
theorem dX1_copyFrom_53 : decode cX1_copyFrom 53 = .ok (.aload_n 0, 1) := by decide +kernel
theorem dX1_copyFrom_54 : decode cX1_copyFrom 54 = .ok (.aload_n 1, 1) := by decide +kernel
theorem dX1_copyFrom_55 : decode cX1_copyFrom 55 = .ok (.getfield 25, 3) := by decide +kernel
theorem dX1_copyFrom_58 : decode cX1_copyFrom 58 = .ok (.putfield 25, 3) := by decide +kernel
theorem dX1_copyFrom_61 : decode cX1_copyFrom 61 = .ok (.return_, 1) := by decide +kernel
theorem dX1_lessen_0 : decode cX1_lessen 0 = .ok (.aload_n 0, 1) := by decide +kernel
theorem dX1_lessen_1 : decode cX1_lessen 1 = .ok (.getfield 9, 3) := by decide +kernel
theorem dX1_lessen_4 : decode cX1_lessen 4 = .ok (.iload_n 1, 1) := by decide +kernel
theorem dX1_lessen_5 : decode cX1_lessen 5 = .ok (.iconst 0, 1) := by decide +kernel
theorem dX1_lessen_6 : decode cX1_lessen 6 = .ok (.aload_n 0, 1) := by decide +kernel
theorem dX1_lessen_7 : decode cX1_lessen 7 = .ok (.getfield 9, 3) := by decide +kernel
theorem dX1_lessen_10 : decode cX1_lessen 10 = .ok (.iload_n 1, 1) := by decide +kernel
theorem dX1_lessen_11 : decode cX1_lessen 11 = .ok (.iaload, 1) := by decide +kernel
theorem dX1_lessen_12 : decode cX1_lessen 12 = .ok (.iload_n 2, 1) := by decide +kernel
theorem dX1_lessen_13 : decode cX1_lessen 13 = .ok (.isub, 1) := by decide +kernel
theorem dX1_lessen_14 : decode cX1_lessen 14 = .ok (.invokestatic 45, 3) := by decide +kernel
theorem dX1_lessen_17 : decode cX1_lessen 17 = .ok (.iastore, 1) := by decide +kernel
theorem dX1_lessen_18 : decode cX1_lessen 18 = .ok (.aload_n 0, 1) := by decide +kernel
theorem dX1_lessen_19 : decode cX1_lessen 19 = .ok (.getfield 9, 3) := by decide +kernel
theorem dX1_lessen_22 : decode cX1_lessen 22 = .ok (.iload_n 1, 1) := by decide +kernel
theorem dX1_lessen_23 : decode cX1_lessen 23 = .ok (.iaload, 1) := by decide +kernel
theorem dX1_lessen_24 : decode cX1_lessen 24 = .ok (.ireturn, 1) := by decide +kernel
theorem dX1_addHurt_0 : decode cX1_addHurt 0 = .ok (.aload_n 0, 1) := by decide +kernel
theorem dX1_addHurt_1 : decode cX1_addHurt 1 = .ok (.ldc 51, 2) := by decide +kernel
theorem dX1_addHurt_3 : decode cX1_addHurt 3 = .ok (.aload_n 0, 1) := by decide +kernel
theorem dX1_addHurt_4 : decode cX1_addHurt 4 = .ok (.getfield 21, 3) := by decide +kernel
theorem dX1_addHurt_7 : decode cX1_addHurt 7 = .ok (.iload_n 1, 1) := by decide +kernel
theorem dX1_addHurt_8 : decode cX1_addHurt 8 = .ok (.iadd, 1) := by decide +kernel
theorem dX1_addHurt_9 : decode cX1_addHurt 9 = .ok (.invokestatic 52, 3) := by decide +kernel
theorem dX1_addHurt_12 : decode cX1_addHurt 12 = .ok (.putfield 21, 3) := by decide +kernel
theorem dX1_addHurt_15 : decode cX1_addHurt 15 = .ok (.return_, 1) := by decide +kernel
theorem dX1_endYear_0 : decode cX1_endYear 0 = .ok (.iconst 0, 1) := by decide +kernel
theorem dX1_endYear_1 : decode cX1_endYear 1 = .ok (.istore_n 2, 1) := by decide +kernel
theorem dX1_endYear_2 : decode cX1_endYear 2 = .ok (.iload_n 2, 1) := by decide +kernel
theorem dX1_endYear_3 : decode cX1_endYear 3 = .ok (.aload_n 1, 1) := by decide +kernel
theorem dX1_endYear_4 : decode cX1_endYear 4 = .ok (.getfield 55, 3) := by decide +kernel
theorem dX1_endYear_7 : decode cX1_endYear 7 = .ok (.if_icmp .ge 34, 3) := by decide +kernel
theorem dX1_endYear_10 : decode cX1_endYear 10 = .ok (.aload_n 0, 1) := by decide +kernel
theorem dX1_endYear_11 : decode cX1_endYear 11 = .ok (.getfield 9, 3) := by decide +kernel
theorem dX1_endYear_14 : decode cX1_endYear 14 = .ok (.iload_n 2, 1) := by decide +kernel
theorem dX1_endYear_15 : decode cX1_endYear 15 = .ok (.sipush 999, 3) := by decide +kernel
theorem dX1_endYear_18 : decode cX1_endYear 18 = .ok (.aload_n 0, 1) := by decide +kernel
theorem dX1_endYear_19 : decode cX1_endYear 19 = .ok (.getfield 9, 3) := by decide +kernel
theorem dX1_endYear_22 : decode cX1_endYear 22 = .ok (.iload_n 2, 1) := by decide +kernel
theorem dX1_endYear_23 : decode cX1_endYear 23 = .ok (.iaload, 1) := by decide +kernel
theorem dX1_endYear_24 : decode cX1_endYear 24 = .ok (.aload_n 1, 1) := by decide +kernel
theorem dX1_endYear_25 : decode cX1_endYear 25 = .ok (.getfield 28, 3) := by decide +kernel
theorem dX1_endYear_28 : decode cX1_endYear 28 = .ok (.iload_n 2, 1) := by decide +kernel
theorem dX1_endYear_29 : decode cX1_endYear 29 = .ok (.iaload, 1) := by decide +kernel
theorem dX1_endYear_30 : decode cX1_endYear 30 = .ok (.iadd, 1) := by decide +kernel
theorem dX1_endYear_31 : decode cX1_endYear 31 = .ok (.invokestatic 52, 3) := by decide +kernel
theorem dX1_endYear_34 : decode cX1_endYear 34 = .ok (.iastore, 1) := by decide +kernel
theorem dX1_endYear_35 : decode cX1_endYear 35 = .ok (.iinc 2 1, 3) := by decide +kernel
theorem dX1_endYear_38 : decode cX1_endYear 38 = .ok (.goto (-36), 3) := by decide +kernel
theorem dX1_endYear_41 : decode cX1_endYear 41 = .ok (.aload_n 0, 1) := by decide +kernel
theorem dX1_endYear_42 : decode cX1_endYear 42 = .ok (.getfield 15, 3) := by decide +kernel
theorem dX1_endYear_45 : decode cX1_endYear 45 = .ok (.iconst 0, 1) := by decide +kernel
theorem dX1_endYear_46 : decode cX1_endYear 46 = .ok (.invokestatic 39, 3) := by decide +kernel
theorem dX1_endYear_49 : decode cX1_endYear 49 = .ok (.aload_n 0, 1) := by decide +kernel
theorem dX1_endYear_50 : decode cX1_endYear 50 = .ok (.getfield 18, 3) := by decide +kernel
theorem dX1_endYear_53 : decode cX1_endYear 53 = .ok (.iconst 0, 1) := by decide +kernel
theorem dX1_endYear_54 : decode cX1_endYear 54 = .ok (.invokestatic 39, 3) := by decide +kernel
theorem dX1_endYear_57 : decode cX1_endYear 57 = .ok (.aload_n 0, 1) := by decide +kernel
theorem dX1_endYear_58 : decode cX1_endYear 58 = .ok (.dup, 1) := by decide +kernel
theorem dX1_endYear_59 : decode cX1_endYear 59 = .ok (.getfield 25, 3) := by decide +kernel
theorem dX1_endYear_62 : decode cX1_endYear 62 = .ok (.iconst 1, 1) := by decide +kernel
theorem dX1_endYear_63 : decode cX1_endYear 63 = .ok (.iadd, 1) := by decide +kernel
theorem dX1_endYear_64 : decode cX1_endYear 64 = .ok (.putfield 25, 3) := by decide +kernel
theorem dX1_endYear_67 : decode cX1_endYear 67 = .ok (.return_, 1) := by decide +kernel
theorem dX1_dueOfAll_0 : decode cX1_dueOfAll 0 = .ok (.iconst 0, 1) := by decide +kernel
theorem dX1_dueOfAll_1 : decode cX1_dueOfAll 1 = .ok (.istore_n 2, 1) := by decide +kernel
theorem dX1_dueOfAll_2 : decode cX1_dueOfAll 2 = .ok (.iconst 0, 1) := by decide +kernel
theorem dX1_dueOfAll_3 : decode cX1_dueOfAll 3 = .ok (.istore_n 3, 1) := by decide +kernel
theorem dX1_dueOfAll_4 : decode cX1_dueOfAll 4 = .ok (.iload_n 3, 1) := by decide +kernel
theorem dX1_dueOfAll_5 : decode cX1_dueOfAll 5 = .ok (.iload_n 1, 1) := by decide +kernel
theorem dX1_dueOfAll_6 : decode cX1_dueOfAll 6 = .ok (.if_icmp .ge 18, 3) := by decide +kernel
theorem dX1_dueOfAll_9 : decode cX1_dueOfAll 9 = .ok (.iload_n 2, 1) := by decide +kernel
theorem dX1_dueOfAll_10 : decode cX1_dueOfAll 10 = .ok (.aload_n 0, 1) := by decide +kernel
theorem dX1_dueOfAll_11 : decode cX1_dueOfAll 11 = .ok (.getfield 9, 3) := by decide +kernel
theorem dX1_dueOfAll_14 : decode cX1_dueOfAll 14 = .ok (.iload_n 3, 1) := by decide +kernel
theorem dX1_dueOfAll_15 : decode cX1_dueOfAll 15 = .ok (.iaload, 1) := by decide +kernel
theorem dX1_dueOfAll_16 : decode cX1_dueOfAll 16 = .ok (.iadd, 1) := by decide +kernel
theorem dX1_dueOfAll_17 : decode cX1_dueOfAll 17 = .ok (.istore_n 2, 1) := by decide +kernel
theorem dX1_dueOfAll_18 : decode cX1_dueOfAll 18 = .ok (.iinc 3 1, 3) := by decide +kernel
theorem dX1_dueOfAll_21 : decode cX1_dueOfAll 21 = .ok (.goto (-17), 3) := by decide +kernel
theorem dX1_dueOfAll_24 : decode cX1_dueOfAll 24 = .ok (.iload_n 2, 1) := by decide +kernel
theorem dX1_dueOfAll_25 : decode cX1_dueOfAll 25 = .ok (.ireturn, 1) := by decide +kernel
theorem dX2_init_0 : decode cX2_init 0 = .ok (.aload_n 0, 1) := by decide +kernel
theorem dX2_init_1 : decode cX2_init 1 = .ok (.invokespecial 3, 3) := by decide +kernel
theorem dX2_init_4 : decode cX2_init 4 = .ok (.aload_n 0, 1) := by decide +kernel
theorem dX2_init_5 : decode cX2_init 5 = .ok (.bipush 10, 2) := by decide +kernel
theorem dX2_init_7 : decode cX2_init 7 = .ok (.newarray .int, 2) := by decide +kernel
theorem dX2_init_9 : decode cX2_init 9 = .ok (.putfield 11, 3) := by decide +kernel
theorem dX2_init_12 : decode cX2_init 12 = .ok (.aload_n 0, 1) := by decide +kernel
theorem dX2_init_13 : decode cX2_init 13 = .ok (.sipush 1000, 3) := by decide +kernel
theorem dX2_init_16 : decode cX2_init 16 = .ok (.newarray .int, 2) := by decide +kernel
theorem dX2_init_18 : decode cX2_init 18 = .ok (.putfield 15, 3) := by decide +kernel
theorem dX2_init_21 : decode cX2_init 21 = .ok (.aload_n 0, 1) := by decide +kernel
theorem dX2_init_22 : decode cX2_init 22 = .ok (.bipush 7, 2) := by decide +kernel
theorem dX2_init_24 : decode cX2_init 24 = .ok (.bipush 13, 2) := by decide +kernel
theorem dX2_init_26 : decode cX2_init 26 = .ok (.multianewarray 18 2, 4) := by decide +kernel
theorem dX2_init_30 : decode cX2_init 30 = .ok (.putfield 20, 3) := by decide +kernel
theorem dX2_init_33 : decode cX2_init 33 = .ok (.aload_n 0, 1) := by decide +kernel
theorem dX2_init_34 : decode cX2_init 34 = .ok (.bipush 8, 2) := by decide +kernel
theorem dX2_init_36 : decode cX2_init 36 = .ok (.bipush 100, 2) := by decide +kernel
theorem dX2_init_38 : decode cX2_init 38 = .ok (.multianewarray 18 2, 4) := by decide +kernel
theorem dX2_init_42 : decode cX2_init 42 = .ok (.putfield 23, 3) := by decide +kernel
theorem dX2_init_45 : decode cX2_init 45 = .ok (.return_, 1) := by decide +kernel
theorem dX2_payByFalls_0 : decode cX2_payByFalls 0 = .ok (.aload_n 0, 1) := by decide +kernel
theorem dX2_payByFalls_1 : decode cX2_payByFalls 1 = .ok (.aload_n 1, 1) := by decide +kernel
theorem dX2_payByFalls_2 : decode cX2_payByFalls 2 = .ok (.invokevirtual 26, 3) := by decide +kernel
theorem dX2_payByFalls_5 : decode cX2_payByFalls 5 = .ok (.aload_n 0, 1) := by decide +kernel
theorem dX2_payByFalls_6 : decode cX2_payByFalls 6 = .ok (.getfield 15, 3) := by decide +kernel
theorem dX2_payByFalls_9 : decode cX2_payByFalls 9 = .ok (.iconst 0, 1) := by decide +kernel
theorem dX2_payByFalls_10 : decode cX2_payByFalls 10 = .ok (.iconst 0, 1) := by decide +kernel
theorem dX2_payByFalls_11 : decode cX2_payByFalls 11 = .ok (.iastore, 1) := by decide +kernel
theorem dX2_payByFalls_12 : decode cX2_payByFalls 12 = .ok (.iconst 1, 1) := by decide +kernel
theorem dX2_payByFalls_13 : decode cX2_payByFalls 13 = .ok (.istore 4, 2) := by decide +kernel
theorem dX2_payByFalls_15 : decode cX2_payByFalls 15 = .ok (.iload 4, 2) := by decide +kernel
theorem dX2_payByFalls_17 : decode cX2_payByFalls 17 = .ok (.iload_n 2, 1) := by decide +kernel
theorem dX2_payByFalls_18 : decode cX2_payByFalls 18 = .ok (.if_icmp .gt 22, 3) := by decide +kernel
theorem dX2_payByFalls_21 : decode cX2_payByFalls 21 = .ok (.aload_n 0, 1) := by decide +kernel
theorem dX2_payByFalls_22 : decode cX2_payByFalls 22 = .ok (.getfield 15, 3) := by decide +kernel
theorem dX2_payByFalls_25 : decode cX2_payByFalls 25 = .ok (.iload 4, 2) := by decide +kernel
theorem dX2_payByFalls_27 : decode cX2_payByFalls 27 = .ok (.aload_n 0, 1) := by decide +kernel
theorem dX2_payByFalls_28 : decode cX2_payByFalls 28 = .ok (.iload 4, 2) := by decide +kernel
theorem dX2_payByFalls_30 : decode cX2_payByFalls 30 = .ok (.invokevirtual 30, 3) := by decide +kernel
theorem dX2_payByFalls_33 : decode cX2_payByFalls 33 = .ok (.iastore, 1) := by decide +kernel
theorem dX2_payByFalls_34 : decode cX2_payByFalls 34 = .ok (.iinc 4 1, 3) := by decide +kernel
theorem dX2_payByFalls_37 : decode cX2_payByFalls 37 = .ok (.goto (-22), 3) := by decide +kernel
theorem dX2_payByFalls_40 : decode cX2_payByFalls 40 = .ok (.aload_n 0, 1) := by decide +kernel
theorem dX2_payByFalls_41 : decode cX2_payByFalls 41 = .ok (.getfield 15, 3) := by decide +kernel
theorem dX2_payByFalls_44 : decode cX2_payByFalls 44 = .ok (.iload_n 2, 1) := by decide +kernel
theorem dX2_payByFalls_45 : decode cX2_payByFalls 45 = .ok (.iaload, 1) := by decide +kernel
theorem dX2_payByFalls_46 : decode cX2_payByFalls 46 = .ok (.istore 4, 2) := by decide +kernel
theorem dX2_payByFalls_48 : decode cX2_payByFalls 48 = .ok (.iload 4, 2) := by decide +kernel
theorem dX2_payByFalls_50 : decode cX2_payByFalls 50 = .ok (.ldc 34, 2) := by decide +kernel
theorem dX2_payByFalls_52 : decode cX2_payByFalls 52 = .ok (.if_icmp .ne 6, 3) := by decide +kernel
theorem dX2_payByFalls_55 : decode cX2_payByFalls 55 = .ok (.bipush (-9), 2) := by decide +kernel
theorem dX2_payByFalls_57 : decode cX2_payByFalls 57 = .ok (.ireturn, 1) := by decide +kernel
theorem dX2_payByFalls_58 : decode cX2_payByFalls 58 = .ok (.iload_n 3, 1) := by decide +kernel
theorem dX2_payByFalls_59 : decode cX2_payByFalls 59 = .ok (.ifCond .eq 12, 3) := by decide +kernel
theorem dX2_payByFalls_62 : decode cX2_payByFalls 62 = .ok (.iload 4, 2) := by decide +kernel
theorem dX2_payByFalls_64 : decode cX2_payByFalls 64 = .ok (.sipush 1000, 3) := by decide +kernel
theorem dX2_payByFalls_67 : decode cX2_payByFalls 67 = .ok (.idiv, 1) := by decide +kernel
theorem dX2_payByFalls_68 : decode cX2_payByFalls 68 = .ok (.goto 9, 3) := by decide +kernel
theorem dX2_payByFalls_71 : decode cX2_payByFalls 71 = .ok (.iload 4, 2) := by decide +kernel
theorem dX2_payByFalls_73 : decode cX2_payByFalls 73 = .ok (.sipush 1000, 3) := by decide +kernel
theorem dX2_payByFalls_76 : decode cX2_payByFalls 76 = .ok (.irem, 1) := by decide +kernel
theorem dX2_payByFalls_77 : decode cX2_payByFalls 77 = .ok (.ireturn, 1) := by decide +kernel
theorem dX2_gatherFalls_0 : decode cX2_gatherFalls 0 = .ok (.aload_n 0, 1) := by decide +kernel
theorem dX2_gatherFalls_1 : decode cX2_gatherFalls 1 = .ok (.getfield 11, 3) := by decide +kernel
theorem dX2_gatherFalls_4 : decode cX2_gatherFalls 4 = .ok (.ldc 34, 2) := by decide +kernel
theorem dX2_gatherFalls_6 : decode cX2_gatherFalls 6 = .ok (.invokestatic 35, 3) := by decide +kernel
theorem dX2_gatherFalls_9 : decode cX2_gatherFalls 9 = .ok (.iconst 0, 1) := by decide +kernel
theorem dX2_gatherFalls_10 : decode cX2_gatherFalls 10 = .ok (.istore_n 2, 1) := by decide +kernel
theorem dX2_gatherFalls_11 : decode cX2_gatherFalls 11 = .ok (.iload_n 2, 1) := by decide +kernel
theorem dX2_gatherFalls_12 : decode cX2_gatherFalls 12 = .ok (.aload_n 1, 1) := by decide +kernel
theorem dX2_gatherFalls_13 : decode cX2_gatherFalls 13 = .ok (.getfield 41, 3) := by decide +kernel
theorem dX2_gatherFalls_16 : decode cX2_gatherFalls 16 = .ok (.if_icmp .ge 58, 3) := by decide +kernel
theorem dX2_gatherFalls_19 : decode cX2_gatherFalls 19 = .ok (.aload_n 0, 1) := by decide +kernel
theorem dX2_gatherFalls_20 : decode cX2_gatherFalls 20 = .ok (.aload_n 1, 1) := by decide +kernel
theorem dX2_gatherFalls_21 : decode cX2_gatherFalls 21 = .ok (.iload_n 2, 1) := by decide +kernel
theorem dX2_gatherFalls_22 : decode cX2_gatherFalls 22 = .ok (.invokevirtual 47, 3) := by decide +kernel
theorem dX2_gatherFalls_25 : decode cX2_gatherFalls 25 = .ok (.aload_n 1, 1) := by decide +kernel
theorem dX2_gatherFalls_26 : decode cX2_gatherFalls 26 = .ok (.getfield 50, 3) := by decide +kernel
theorem dX2_gatherFalls_29 : decode cX2_gatherFalls 29 = .ok (.iload_n 2, 1) := by decide +kernel
theorem dX2_gatherFalls_30 : decode cX2_gatherFalls 30 = .ok (.iaload, 1) := by decide +kernel
theorem dX2_gatherFalls_31 : decode cX2_gatherFalls 31 = .ok (.invokevirtual 53, 3) := by decide +kernel
theorem dX2_gatherFalls_34 : decode cX2_gatherFalls 34 = .ok (.iconst 0, 1) := by decide +kernel
theorem dX2_gatherFalls_35 : decode cX2_gatherFalls 35 = .ok (.istore_n 3, 1) := by decide +kernel
theorem dX2_gatherFalls_36 : decode cX2_gatherFalls 36 = .ok (.iload_n 3, 1) := by decide +kernel
theorem dX2_gatherFalls_37 : decode cX2_gatherFalls 37 = .ok (.iload_n 2, 1) := by decide +kernel
theorem dX2_gatherFalls_38 : decode cX2_gatherFalls 38 = .ok (.if_icmp .ge 30, 3) := by decide +kernel
theorem dX2_gatherFalls_41 : decode cX2_gatherFalls 41 = .ok (.aload_n 0, 1) := by decide +kernel
theorem dX2_gatherFalls_42 : decode cX2_gatherFalls 42 = .ok (.aload_n 1, 1) := by decide +kernel
theorem dX2_gatherFalls_43 : decode cX2_gatherFalls 43 = .ok (.getfield 57, 3) := by decide +kernel
theorem dX2_gatherFalls_46 : decode cX2_gatherFalls 46 = .ok (.aload_n 1, 1) := by decide +kernel
theorem dX2_gatherFalls_47 : decode cX2_gatherFalls 47 = .ok (.getfield 50, 3) := by decide +kernel
theorem dX2_gatherFalls_50 : decode cX2_gatherFalls 50 = .ok (.iload_n 2, 1) := by decide +kernel
theorem dX2_gatherFalls_51 : decode cX2_gatherFalls 51 = .ok (.iaload, 1) := by decide +kernel
theorem dX2_gatherFalls_52 : decode cX2_gatherFalls 52 = .ok (.aload_n 1, 1) := by decide +kernel
theorem dX2_gatherFalls_53 : decode cX2_gatherFalls 53 = .ok (.getfield 50, 3) := by decide +kernel
theorem dX2_gatherFalls_56 : decode cX2_gatherFalls 56 = .ok (.iload_n 3, 1) := by decide +kernel
theorem dX2_gatherFalls_57 : decode cX2_gatherFalls 57 = .ok (.iaload, 1) := by decide +kernel
theorem dX2_gatherFalls_58 : decode cX2_gatherFalls 58 = .ok (.iadd, 1) := by decide +kernel
theorem dX2_gatherFalls_59 : decode cX2_gatherFalls 59 = .ok (.invokevirtual 53, 3) := by decide +kernel
theorem dX2_gatherFalls_62 : decode cX2_gatherFalls 62 = .ok (.iinc 3 1, 3) := by decide +kernel
theorem dX2_gatherFalls_65 : decode cX2_gatherFalls 65 = .ok (.goto (-29), 3) := by decide +kernel
theorem dX2_gatherFalls_68 : decode cX2_gatherFalls 68 = .ok (.iinc 2 1, 3) := by decide +kernel
theorem dX2_gatherFalls_71 : decode cX2_gatherFalls 71 = .ok (.goto (-60), 3) := by decide +kernel
theorem dX2_gatherFalls_74 : decode cX2_gatherFalls 74 = .ok (.return_, 1) := by decide +kernel
theorem dX2_offerFall_0 : decode cX2_offerFall 0 = .ok (.aload_n 0, 1) := by decide +kernel
theorem dX2_offerFall_1 : decode cX2_offerFall 1 = .ok (.getfield 11, 3) := by decide +kernel
theorem dX2_offerFall_4 : decode cX2_offerFall 4 = .ok (.iload_n 1, 1) := by decide +kernel
theorem dX2_offerFall_5 : decode cX2_offerFall 5 = .ok (.aload_n 0, 1) := by decide +kernel
theorem dX2_offerFall_6 : decode cX2_offerFall 6 = .ok (.getfield 11, 3) := by decide +kernel
theorem dX2_offerFall_9 : decode cX2_offerFall 9 = .ok (.iload_n 1, 1) := by decide +kernel
theorem dX2_offerFall_10 : decode cX2_offerFall 10 = .ok (.iaload, 1) := by decide +kernel
theorem dX2_offerFall_11 : decode cX2_offerFall 11 = .ok (.iload_n 2, 1) := by decide +kernel
theorem dX2_offerFall_12 : decode cX2_offerFall 12 = .ok (.invokestatic 60, 3) := by decide +kernel
theorem dX2_offerFall_15 : decode cX2_offerFall 15 = .ok (.iastore, 1) := by decide +kernel
theorem dX2_offerFall_16 : decode cX2_offerFall 16 = .ok (.return_, 1) := by decide +kernel
theorem dX2_cheapestFor_0 : decode cX2_cheapestFor 0 = .ok (.ldc 34, 2) := by decide +kernel
theorem dX2_cheapestFor_2 : decode cX2_cheapestFor 2 = .ok (.istore_n 2, 1) := by decide +kernel
theorem dX2_cheapestFor_3 : decode cX2_cheapestFor 3 = .ok (.iconst 1, 1) := by decide +kernel
theorem dX2_cheapestFor_4 : decode cX2_cheapestFor 4 = .ok (.istore_n 3, 1) := by decide +kernel
theorem dX2_cheapestFor_5 : decode cX2_cheapestFor 5 = .ok (.iload_n 3, 1) := by decide +kernel
theorem dX2_cheapestFor_6 : decode cX2_cheapestFor 6 = .ok (.bipush 9, 2) := by decide +kernel
theorem dX2_cheapestFor_8 : decode cX2_cheapestFor 8 = .ok (.if_icmp .gt 61, 3) := by decide +kernel
theorem dX2_cheapestFor_11 : decode cX2_cheapestFor 11 = .ok (.aload_n 0, 1) := by decide +kernel
theorem dX2_cheapestFor_12 : decode cX2_cheapestFor 12 = .ok (.getfield 15, 3) := by decide +kernel
theorem dX2_cheapestFor_15 : decode cX2_cheapestFor 15 = .ok (.iconst 0, 1) := by decide +kernel
theorem dX2_cheapestFor_16 : decode cX2_cheapestFor 16 = .ok (.iload_n 1, 1) := by decide +kernel
theorem dX2_cheapestFor_17 : decode cX2_cheapestFor 17 = .ok (.iload_n 3, 1) := by decide +kernel
theorem dX2_cheapestFor_18 : decode cX2_cheapestFor 18 = .ok (.isub, 1) := by decide +kernel
theorem dX2_cheapestFor_19 : decode cX2_cheapestFor 19 = .ok (.invokestatic 66, 3) := by decide +kernel
theorem dX2_cheapestFor_22 : decode cX2_cheapestFor 22 = .ok (.iaload, 1) := by decide +kernel
theorem dX2_cheapestFor_23 : decode cX2_cheapestFor 23 = .ok (.istore 4, 2) := by decide +kernel
theorem dX2_cheapestFor_25 : decode cX2_cheapestFor 25 = .ok (.aload_n 0, 1) := by decide +kernel
theorem dX2_cheapestFor_26 : decode cX2_cheapestFor 26 = .ok (.getfield 11, 3) := by decide +kernel
theorem dX2_cheapestFor_29 : decode cX2_cheapestFor 29 = .ok (.iload_n 3, 1) := by decide +kernel
theorem dX2_cheapestFor_30 : decode cX2_cheapestFor 30 = .ok (.iaload, 1) := by decide +kernel
theorem dX2_cheapestFor_31 : decode cX2_cheapestFor 31 = .ok (.ldc 34, 2) := by decide +kernel
theorem dX2_cheapestFor_33 : decode cX2_cheapestFor 33 = .ok (.if_icmp .eq 30, 3) := by decide +kernel
theorem dX2_cheapestFor_36 : decode cX2_cheapestFor 36 = .ok (.iload 4, 2) := by decide +kernel
theorem dX2_cheapestFor_38 : decode cX2_cheapestFor 38 = .ok (.ldc 34, 2) := by decide +kernel
theorem dX2_cheapestFor_40 : decode cX2_cheapestFor 40 = .ok (.if_icmp .eq 23, 3) := by decide +kernel
theorem dX2_cheapestFor_43 : decode cX2_cheapestFor 43 = .ok (.iload_n 2, 1) := by decide +kernel
theorem dX2_cheapestFor_44 : decode cX2_cheapestFor 44 = .ok (.iload 4, 2) := by decide +kernel
theorem dX2_cheapestFor_46 : decode cX2_cheapestFor 46 = .ok (.aload_n 0, 1) := by decide +kernel
theorem dX2_cheapestFor_47 : decode cX2_cheapestFor 47 = .ok (.getfield 11, 3) := by decide +kernel
theorem dX2_cheapestFor_50 : decode cX2_cheapestFor 50 = .ok (.iload_n 3, 1) := by decide +kernel
theorem dX2_cheapestFor_51 : decode cX2_cheapestFor 51 = .ok (.iaload, 1) := by decide +kernel
theorem dX2_cheapestFor_52 : decode cX2_cheapestFor 52 = .ok (.sipush 1000, 3) := by decide +kernel
theorem dX2_cheapestFor_55 : decode cX2_cheapestFor 55 = .ok (.imul, 1) := by decide +kernel
theorem dX2_cheapestFor_56 : decode cX2_cheapestFor 56 = .ok (.iadd, 1) := by decide +kernel
theorem dX2_cheapestFor_57 : decode cX2_cheapestFor 57 = .ok (.iconst 1, 1) := by decide +kernel
theorem dX2_cheapestFor_58 : decode cX2_cheapestFor 58 = .ok (.iadd, 1) := by decide +kernel
theorem dX2_cheapestFor_59 : decode cX2_cheapestFor 59 = .ok (.invokestatic 60, 3) := by decide +kernel
theorem dX2_cheapestFor_62 : decode cX2_cheapestFor 62 = .ok (.istore_n 2, 1) := by decide +kernel
theorem dX2_cheapestFor_63 : decode cX2_cheapestFor 63 = .ok (.iinc 3 1, 3) := by decide +kernel
theorem dX2_cheapestFor_66 : decode cX2_cheapestFor 66 = .ok (.goto (-61), 3) := by decide +kernel
theorem dX2_cheapestFor_69 : decode cX2_cheapestFor 69 = .ok (.iload_n 2, 1) := by decide +kernel
theorem dX2_cheapestFor_70 : decode cX2_cheapestFor 70 = .ok (.ireturn, 1) := by decide +kernel
theorem dX2_spend_0 : decode cX2_spend 0 = .ok (.aload_n 0, 1) := by decide +kernel
theorem dX2_spend_1 : decode cX2_spend 1 = .ok (.getfield 23, 3) := by decide +kernel
theorem dX2_spend_4 : decode cX2_spend 4 = .ok (.aload_n 1, 1) := by decide +kernel
theorem dX2_spend_5 : decode cX2_spend 5 = .ok (.getfield 69, 3) := by decide +kernel
theorem dX2_spend_8 : decode cX2_spend 8 = .ok (.aaload, 1) := by decide +kernel
theorem dX2_spend_9 : decode cX2_spend 9 = .ok (.iconst 0, 1) := by decide +kernel
theorem dX2_spend_10 : decode cX2_spend 10 = .ok (.invokestatic 35, 3) := by decide +kernel
theorem dX2_spend_13 : decode cX2_spend 13 = .ok (.aload_n 1, 1) := by decide +kernel
theorem dX2_spend_14 : decode cX2_spend 14 = .ok (.getfield 69, 3) := by decide +kernel
theorem dX2_spend_17 : decode cX2_spend 17 = .ok (.iconst 1, 1) := by decide +kernel
theorem dX2_spend_18 : decode cX2_spend 18 = .ok (.isub, 1) := by decide +kernel
theorem dX2_spend_19 : decode cX2_spend 19 = .ok (.istore 4, 2) := by decide +kernel
theorem dX2_spend_21 : decode cX2_spend 21 = .ok (.iload 4, 2) := by decide +kernel
theorem dX2_spend_23 : decode cX2_spend 23 = .ok (.ifCond .lt 92, 3) := by decide +kernel
theorem dX2_spend_26 : decode cX2_spend 26 = .ok (.iconst 0, 1) := by decide +kernel
theorem dX2_spend_27 : decode cX2_spend 27 = .ok (.istore 5, 2) := by decide +kernel
theorem dX2_spend_29 : decode cX2_spend 29 = .ok (.iload 5, 2) := by decide +kernel
theorem dX2_spend_31 : decode cX2_spend 31 = .ok (.bipush 12, 2) := by decide +kernel
theorem dX2_spend_33 : decode cX2_spend 33 = .ok (.if_icmp .gt 43, 3) := by decide +kernel
theorem dX2_spend_36 : decode cX2_spend 36 = .ok (.aload_n 0, 1) := by decide +kernel
theorem dX2_spend_37 : decode cX2_spend 37 = .ok (.getfield 20, 3) := by decide +kernel
theorem dX2_spend_40 : decode cX2_spend 40 = .ok (.iload 4, 2) := by decide +kernel
theorem dX2_spend_42 : decode cX2_spend 42 = .ok (.aaload, 1) := by decide +kernel
theorem dX2_spend_43 : decode cX2_spend 43 = .ok (.iload 5, 2) := by decide +kernel
theorem dX2_spend_45 : decode cX2_spend 45 = .ok (.aload_n 2, 1) := by decide +kernel
theorem dX2_spend_46 : decode cX2_spend 46 = .ok (.getfield 72, 3) := by decide +kernel
theorem dX2_spend_49 : decode cX2_spend 49 = .ok (.iload 4, 2) := by decide +kernel
theorem dX2_spend_51 : decode cX2_spend 51 = .ok (.iaload, 1) := by decide +kernel
theorem dX2_spend_52 : decode cX2_spend 52 = .ok (.aload_n 1, 1) := by decide +kernel
theorem dX2_spend_53 : decode cX2_spend 53 = .ok (.getfield 77, 3) := by decide +kernel
theorem dX2_spend_56 : decode cX2_spend 56 = .ok (.aload_n 2, 1) := by decide +kernel
theorem dX2_spend_57 : decode cX2_spend 57 = .ok (.getfield 80, 3) := by decide +kernel
theorem dX2_spend_60 : decode cX2_spend 60 = .ok (.iload 4, 2) := by decide +kernel
theorem dX2_spend_62 : decode cX2_spend 62 = .ok (.iaload, 1) := by decide +kernel
theorem dX2_spend_63 : decode cX2_spend 63 = .ok (.isub, 1) := by decide +kernel
theorem dX2_spend_64 : decode cX2_spend 64 = .ok (.iload 5, 2) := by decide +kernel
theorem dX2_spend_66 : decode cX2_spend 66 = .ok (.invokestatic 83, 3) := by decide +kernel
theorem dX2_spend_69 : decode cX2_spend 69 = .ok (.iastore, 1) := by decide +kernel
theorem dX2_spend_70 : decode cX2_spend 70 = .ok (.iinc 5 1, 3) := by decide +kernel
theorem dX2_spend_73 : decode cX2_spend 73 = .ok (.goto (-44), 3) := by decide +kernel
theorem dX2_spend_76 : decode cX2_spend 76 = .ok (.iconst 0, 1) := by decide +kernel
theorem dX2_spend_77 : decode cX2_spend 77 = .ok (.istore 5, 2) := by decide +kernel
theorem dX2_spend_79 : decode cX2_spend 79 = .ok (.iload 5, 2) := by decide +kernel
theorem dX2_spend_81 : decode cX2_spend 81 = .ok (.iload_n 3, 1) := by decide +kernel
theorem dX2_spend_82 : decode cX2_spend 82 = .ok (.if_icmp .gt 27, 3) := by decide +kernel
theorem dX2_spend_85 : decode cX2_spend 85 = .ok (.aload_n 0, 1) := by decide +kernel
theorem dX2_spend_86 : decode cX2_spend 86 = .ok (.getfield 23, 3) := by decide +kernel
theorem dX2_spend_89 : decode cX2_spend 89 = .ok (.iload 4, 2) := by decide +kernel
theorem dX2_spend_91 : decode cX2_spend 91 = .ok (.aaload, 1) := by decide +kernel
theorem dX2_spend_92 : decode cX2_spend 92 = .ok (.iload 5, 2) := by decide +kernel
theorem dX2_spend_94 : decode cX2_spend 94 = .ok (.aload_n 0, 1) := by decide +kernel
theorem dX2_spend_95 : decode cX2_spend 95 = .ok (.iload 4, 2) := by decide +kernel
theorem dX2_spend_97 : decode cX2_spend 97 = .ok (.iload 5, 2) := by decide +kernel
theorem dX2_spend_99 : decode cX2_spend 99 = .ok (.invokevirtual 87, 3) := by decide +kernel
theorem dX2_spend_102 : decode cX2_spend 102 = .ok (.iastore, 1) := by decide +kernel
theorem dX2_spend_103 : decode cX2_spend 103 = .ok (.iinc 5 1, 3) := by decide +kernel
theorem dX2_spend_106 : decode cX2_spend 106 = .ok (.goto (-27), 3) := by decide +kernel
theorem dX2_spend_109 : decode cX2_spend 109 = .ok (.iinc 4 (-1), 3) := by decide +kernel
theorem dX2_spend_112 : decode cX2_spend 112 = .ok (.goto (-91), 3) := by decide +kernel
theorem dX2_spend_115 : decode cX2_spend 115 = .ok (.return_, 1) := by decide +kernel
theorem dX2_leastWith_0 : decode cX2_leastWith 0 = .ok (.ldc 34, 2) := by decide +kernel
theorem dX2_leastWith_2 : decode cX2_leastWith 2 = .ok (.istore_n 3, 1) := by decide +kernel
theorem dX2_leastWith_3 : decode cX2_leastWith 3 = .ok (.iconst 0, 1) := by decide +kernel
theorem dX2_leastWith_4 : decode cX2_leastWith 4 = .ok (.istore 4, 2) := by decide +kernel
theorem dX2_leastWith_6 : decode cX2_leastWith 6 = .ok (.iload 4, 2) := by decide +kernel
theorem dX2_leastWith_8 : decode cX2_leastWith 8 = .ok (.bipush 12, 2) := by decide +kernel
theorem dX2_leastWith_10 : decode cX2_leastWith 10 = .ok (.if_icmp .gt 28, 3) := by decide +kernel
theorem dX2_leastWith_13 : decode cX2_leastWith 13 = .ok (.iload 4, 2) := by decide +kernel
theorem dX2_leastWith_15 : decode cX2_leastWith 15 = .ok (.iload_n 2, 1) := by decide +kernel
theorem dX2_leastWith_16 : decode cX2_leastWith 16 = .ok (.if_icmp .gt 22, 3) := by decide +kernel
theorem dX2_leastWith_19 : decode cX2_leastWith 19 = .ok (.iload_n 3, 1) := by decide +kernel
theorem dX2_leastWith_20 : decode cX2_leastWith 20 = .ok (.aload_n 0, 1) := by decide +kernel
theorem dX2_leastWith_21 : decode cX2_leastWith 21 = .ok (.iload_n 1, 1) := by decide +kernel
theorem dX2_leastWith_22 : decode cX2_leastWith 22 = .ok (.iload 4, 2) := by decide +kernel
theorem dX2_leastWith_24 : decode cX2_leastWith 24 = .ok (.iload_n 2, 1) := by decide +kernel
theorem dX2_leastWith_25 : decode cX2_leastWith 25 = .ok (.invokevirtual 90, 3) := by decide +kernel
theorem dX2_leastWith_28 : decode cX2_leastWith 28 = .ok (.invokestatic 60, 3) := by decide +kernel
theorem dX2_leastWith_31 : decode cX2_leastWith 31 = .ok (.istore_n 3, 1) := by decide +kernel
theorem dX2_leastWith_32 : decode cX2_leastWith 32 = .ok (.iinc 4 1, 3) := by decide +kernel
theorem dX2_leastWith_35 : decode cX2_leastWith 35 = .ok (.goto (-29), 3) := by decide +kernel
theorem dX2_leastWith_38 : decode cX2_leastWith 38 = .ok (.iload_n 3, 1) := by decide +kernel
theorem dX2_leastWith_39 : decode cX2_leastWith 39 = .ok (.ireturn, 1) := by decide +kernel
theorem dX2_spentOn_0 : decode cX2_spentOn 0 = .ok (.aload_n 0, 1) := by decide +kernel
theorem dX2_spentOn_1 : decode cX2_spentOn 1 = .ok (.getfield 20, 3) := by decide +kernel
theorem dX2_spentOn_4 : decode cX2_spentOn 4 = .ok (.iload_n 1, 1) := by decide +kernel
theorem dX2_spentOn_5 : decode cX2_spentOn 5 = .ok (.aaload, 1) := by decide +kernel
theorem dX2_spentOn_6 : decode cX2_spentOn 6 = .ok (.iload_n 2, 1) := by decide +kernel
theorem dX2_spentOn_7 : decode cX2_spentOn 7 = .ok (.iaload, 1) := by decide +kernel
theorem dX2_spentOn_8 : decode cX2_spentOn 8 = .ok (.sipush 1000, 3) := by decide +kernel
theorem dX2_spentOn_11 : decode cX2_spentOn 11 = .ok (.imul, 1) := by decide +kernel
theorem dX2_spentOn_12 : decode cX2_spentOn 12 = .ok (.iload_n 2, 1) := by decide +kernel
theorem dX2_spentOn_13 : decode cX2_spentOn 13 = .ok (.iadd, 1) := by decide +kernel
theorem dX2_spentOn_14 : decode cX2_spentOn 14 = .ok (.aload_n 0, 1) := by decide +kernel
theorem dX2_spentOn_15 : decode cX2_spentOn 15 = .ok (.getfield 23, 3) := by decide +kernel
theorem dX2_spentOn_18 : decode cX2_spentOn 18 = .ok (.iload_n 1, 1) := by decide +kernel
theorem dX2_spentOn_19 : decode cX2_spentOn 19 = .ok (.iconst 1, 1) := by decide +kernel
theorem dX2_spentOn_20 : decode cX2_spentOn 20 = .ok (.iadd, 1) := by decide +kernel
theorem dX2_spentOn_21 : decode cX2_spentOn 21 = .ok (.aaload, 1) := by decide +kernel
theorem dX2_spentOn_22 : decode cX2_spentOn 22 = .ok (.iload_n 3, 1) := by decide +kernel
theorem dX2_spentOn_23 : decode cX2_spentOn 23 = .ok (.iload_n 2, 1) := by decide +kernel
theorem dX2_spentOn_24 : decode cX2_spentOn 24 = .ok (.isub, 1) := by decide +kernel
theorem dX2_spentOn_25 : decode cX2_spentOn 25 = .ok (.iaload, 1) := by decide +kernel
theorem dX2_spentOn_26 : decode cX2_spentOn 26 = .ok (.iadd, 1) := by decide +kernel
theorem dX2_spentOn_27 : decode cX2_spentOn 27 = .ok (.ireturn, 1) := by decide +kernel
theorem dX2_dueWithCoins_0 : decode cX2_dueWithCoins 0 = .ok (.iload_n 2, 1) := by decide +kernel
theorem dX2_dueWithCoins_1 : decode cX2_dueWithCoins 1 = .ok (.bipush 12, 2) := by decide +kernel
theorem dX2_dueWithCoins_3 : decode cX2_dueWithCoins 3 = .ok (.if_icmp .lt 5, 3) := by decide +kernel
theorem dX2_dueWithCoins_6 : decode cX2_dueWithCoins 6 = .ok (.iconst 0, 1) := by decide +kernel
theorem dX2_dueWithCoins_7 : decode cX2_dueWithCoins 7 = .ok (.ireturn, 1) := by decide +kernel
theorem dX2_dueWithCoins_8 : decode cX2_dueWithCoins 8 = .ok (.iconst 0, 1) := by decide +kernel
theorem dX2_dueWithCoins_9 : decode cX2_dueWithCoins 9 = .ok (.istore_n 3, 1) := by decide +kernel
theorem dX2_dueWithCoins_10 : decode cX2_dueWithCoins 10 = .ok (.iconst 0, 1) := by decide +kernel
theorem dX2_dueWithCoins_11 : decode cX2_dueWithCoins 11 = .ok (.istore 4, 2) := by decide +kernel
theorem dX2_dueWithCoins_13 : decode cX2_dueWithCoins 13 = .ok (.iload 4, 2) := by decide +kernel
theorem dX2_dueWithCoins_15 : decode cX2_dueWithCoins 15 = .ok (.iload_n 1, 1) := by decide +kernel
theorem dX2_dueWithCoins_16 : decode cX2_dueWithCoins 16 = .ok (.if_icmp .gt 31, 3) := by decide +kernel
theorem dX2_dueWithCoins_19 : decode cX2_dueWithCoins 19 = .ok (.iload 4, 2) := by decide +kernel
theorem dX2_dueWithCoins_21 : decode cX2_dueWithCoins 21 = .ok (.iload_n 2, 1) := by decide +kernel
theorem dX2_dueWithCoins_22 : decode cX2_dueWithCoins 22 = .ok (.if_icmp .gt 25, 3) := by decide +kernel
theorem dX2_dueWithCoins_25 : decode cX2_dueWithCoins 25 = .ok (.iload_n 3, 1) := by decide +kernel
theorem dX2_dueWithCoins_26 : decode cX2_dueWithCoins 26 = .ok (.iload 4, 2) := by decide +kernel
theorem dX2_dueWithCoins_28 : decode cX2_dueWithCoins 28 = .ok (.iload_n 2, 1) := by decide +kernel
theorem dX2_dueWithCoins_29 : decode cX2_dueWithCoins 29 = .ok (.iload 4, 2) := by decide +kernel
theorem dX2_dueWithCoins_31 : decode cX2_dueWithCoins 31 = .ok (.isub, 1) := by decide +kernel
theorem dX2_dueWithCoins_32 : decode cX2_dueWithCoins 32 = .ok (.iconst 3, 1) := by decide +kernel
theorem dX2_dueWithCoins_33 : decode cX2_dueWithCoins 33 = .ok (.idiv, 1) := by decide +kernel
theorem dX2_dueWithCoins_34 : decode cX2_dueWithCoins 34 = .ok (.iconst 4, 1) := by decide +kernel
theorem dX2_dueWithCoins_35 : decode cX2_dueWithCoins 35 = .ok (.imul, 1) := by decide +kernel
theorem dX2_dueWithCoins_36 : decode cX2_dueWithCoins 36 = .ok (.iadd, 1) := by decide +kernel
theorem dX2_dueWithCoins_37 : decode cX2_dueWithCoins 37 = .ok (.invokestatic 66, 3) := by decide +kernel
theorem dX2_dueWithCoins_40 : decode cX2_dueWithCoins 40 = .ok (.istore_n 3, 1) := by decide +kernel
theorem dX2_dueWithCoins_41 : decode cX2_dueWithCoins 41 = .ok (.iinc 4 1, 3) := by decide +kernel
theorem dX2_dueWithCoins_44 : decode cX2_dueWithCoins 44 = .ok (.goto (-31), 3) := by decide +kernel
theorem dX2_dueWithCoins_47 : decode cX2_dueWithCoins 47 = .ok (.iconst 0, 1) := by decide +kernel
theorem dX2_dueWithCoins_48 : decode cX2_dueWithCoins 48 = .ok (.iload_n 0, 1) := by decide +kernel
theorem dX2_dueWithCoins_49 : decode cX2_dueWithCoins 49 = .ok (.iload_n 3, 1) := by decide +kernel
theorem dX2_dueWithCoins_50 : decode cX2_dueWithCoins 50 = .ok (.isub, 1) := by decide +kernel
theorem dX2_dueWithCoins_51 : decode cX2_dueWithCoins 51 = .ok (.invokestatic 66, 3) := by decide +kernel
theorem dX2_dueWithCoins_54 : decode cX2_dueWithCoins 54 = .ok (.ireturn, 1) := by decide +kernel
theorem dX2_leastDue_0 : decode cX2_leastDue 0 = .ok (.aload_n 0, 1) := by decide +kernel
theorem dX2_leastDue_1 : decode cX2_leastDue 1 = .ok (.getfield 23, 3) := by decide +kernel
theorem dX2_leastDue_4 : decode cX2_leastDue 4 = .ok (.iconst 0, 1) := by decide +kernel
theorem dX2_leastDue_5 : decode cX2_leastDue 5 = .ok (.aaload, 1) := by decide +kernel
theorem dX2_leastDue_6 : decode cX2_leastDue 6 = .ok (.iload_n 1, 1) := by decide +kernel
theorem dX2_leastDue_7 : decode cX2_leastDue 7 = .ok (.iaload, 1) := by decide +kernel
theorem dX2_leastDue_8 : decode cX2_leastDue 8 = .ok (.sipush 1000, 3) := by decide +kernel
theorem dX2_leastDue_11 : decode cX2_leastDue 11 = .ok (.idiv, 1) := by decide +kernel
theorem dX2_leastDue_12 : decode cX2_leastDue 12 = .ok (.ireturn, 1) := by decide +kernel
theorem dX2_fewestCoins_0 : decode cX2_fewestCoins 0 = .ok (.aload_n 0, 1) := by decide +kernel
theorem dX2_fewestCoins_1 : decode cX2_fewestCoins 1 = .ok (.getfield 23, 3) := by decide +kernel
theorem dX2_fewestCoins_4 : decode cX2_fewestCoins 4 = .ok (.iconst 0, 1) := by decide +kernel
theorem dX2_fewestCoins_5 : decode cX2_fewestCoins 5 = .ok (.aaload, 1) := by decide +kernel
theorem dX2_fewestCoins_6 : decode cX2_fewestCoins 6 = .ok (.iload_n 1, 1) := by decide +kernel
theorem dX2_fewestCoins_7 : decode cX2_fewestCoins 7 = .ok (.iaload, 1) := by decide +kernel
theorem dX2_fewestCoins_8 : decode cX2_fewestCoins 8 = .ok (.sipush 1000, 3) := by decide +kernel
theorem dX2_fewestCoins_11 : decode cX2_fewestCoins 11 = .ok (.irem, 1) := by decide +kernel
theorem dX2_fewestCoins_12 : decode cX2_fewestCoins 12 = .ok (.ireturn, 1) := by decide +kernel
theorem dX2_coinsFor_0 : decode cX2_coinsFor 0 = .ok (.iload_n 2, 1) := by decide +kernel
theorem dX2_coinsFor_1 : decode cX2_coinsFor 1 = .ok (.istore_n 3, 1) := by decide +kernel
theorem dX2_coinsFor_2 : decode cX2_coinsFor 2 = .ok (.iconst 0, 1) := by decide +kernel
theorem dX2_coinsFor_3 : decode cX2_coinsFor 3 = .ok (.istore 4, 2) := by decide +kernel
theorem dX2_coinsFor_5 : decode cX2_coinsFor 5 = .ok (.iload 4, 2) := by decide +kernel
theorem dX2_coinsFor_7 : decode cX2_coinsFor 7 = .ok (.iload_n 1, 1) := by decide +kernel
theorem dX2_coinsFor_8 : decode cX2_coinsFor 8 = .ok (.if_icmp .ge 19, 3) := by decide +kernel
theorem dX2_coinsFor_11 : decode cX2_coinsFor 11 = .ok (.iload_n 3, 1) := by decide +kernel
theorem dX2_coinsFor_12 : decode cX2_coinsFor 12 = .ok (.aload_n 0, 1) := by decide +kernel
theorem dX2_coinsFor_13 : decode cX2_coinsFor 13 = .ok (.iload 4, 2) := by decide +kernel
theorem dX2_coinsFor_15 : decode cX2_coinsFor 15 = .ok (.iload_n 3, 1) := by decide +kernel
theorem dX2_coinsFor_16 : decode cX2_coinsFor 16 = .ok (.invokevirtual 93, 3) := by decide +kernel
theorem dX2_coinsFor_19 : decode cX2_coinsFor 19 = .ok (.isub, 1) := by decide +kernel
theorem dX2_coinsFor_20 : decode cX2_coinsFor 20 = .ok (.istore_n 3, 1) := by decide +kernel
theorem dX2_coinsFor_21 : decode cX2_coinsFor 21 = .ok (.iinc 4 1, 3) := by decide +kernel
theorem dX2_coinsFor_24 : decode cX2_coinsFor 24 = .ok (.goto (-19), 3) := by decide +kernel
theorem dX2_coinsFor_27 : decode cX2_coinsFor 27 = .ok (.aload_n 0, 1) := by decide +kernel
theorem dX2_coinsFor_28 : decode cX2_coinsFor 28 = .ok (.iload_n 1, 1) := by decide +kernel
theorem dX2_coinsFor_29 : decode cX2_coinsFor 29 = .ok (.iload_n 3, 1) := by decide +kernel
theorem dX2_coinsFor_30 : decode cX2_coinsFor 30 = .ok (.invokevirtual 93, 3) := by decide +kernel
theorem dX2_coinsFor_33 : decode cX2_coinsFor 33 = .ok (.ireturn, 1) := by decide +kernel
theorem dX2_fewerCoins_0 : decode cX2_fewerCoins 0 = .ok (.iconst 0, 1) := by decide +kernel
theorem dX2_fewerCoins_1 : decode cX2_fewerCoins 1 = .ok (.istore_n 3, 1) := by decide +kernel
theorem dX2_fewerCoins_2 : decode cX2_fewerCoins 2 = .ok (.iload_n 3, 1) := by decide +kernel
theorem dX2_fewerCoins_3 : decode cX2_fewerCoins 3 = .ok (.bipush 12, 2) := by decide +kernel
theorem dX2_fewerCoins_5 : decode cX2_fewerCoins 5 = .ok (.if_icmp .gt 34, 3) := by decide +kernel
theorem dX2_fewerCoins_8 : decode cX2_fewerCoins 8 = .ok (.iload_n 3, 1) := by decide +kernel
theorem dX2_fewerCoins_9 : decode cX2_fewerCoins 9 = .ok (.iload_n 2, 1) := by decide +kernel
theorem dX2_fewerCoins_10 : decode cX2_fewerCoins 10 = .ok (.if_icmp .gt 29, 3) := by decide +kernel
theorem dX2_fewerCoins_13 : decode cX2_fewerCoins 13 = .ok (.aload_n 0, 1) := by decide +kernel
theorem dX2_fewerCoins_14 : decode cX2_fewerCoins 14 = .ok (.iload_n 1, 1) := by decide +kernel
theorem dX2_fewerCoins_15 : decode cX2_fewerCoins 15 = .ok (.iload_n 3, 1) := by decide +kernel
theorem dX2_fewerCoins_16 : decode cX2_fewerCoins 16 = .ok (.iload_n 2, 1) := by decide +kernel
theorem dX2_fewerCoins_17 : decode cX2_fewerCoins 17 = .ok (.invokevirtual 90, 3) := by decide +kernel
theorem dX2_fewerCoins_20 : decode cX2_fewerCoins 20 = .ok (.aload_n 0, 1) := by decide +kernel
theorem dX2_fewerCoins_21 : decode cX2_fewerCoins 21 = .ok (.getfield 23, 3) := by decide +kernel
theorem dX2_fewerCoins_24 : decode cX2_fewerCoins 24 = .ok (.iload_n 1, 1) := by decide +kernel
theorem dX2_fewerCoins_25 : decode cX2_fewerCoins 25 = .ok (.aaload, 1) := by decide +kernel
theorem dX2_fewerCoins_26 : decode cX2_fewerCoins 26 = .ok (.iload_n 2, 1) := by decide +kernel
theorem dX2_fewerCoins_27 : decode cX2_fewerCoins 27 = .ok (.iaload, 1) := by decide +kernel
theorem dX2_fewerCoins_28 : decode cX2_fewerCoins 28 = .ok (.if_icmp .ne 5, 3) := by decide +kernel
theorem dX2_fewerCoins_31 : decode cX2_fewerCoins 31 = .ok (.iload_n 3, 1) := by decide +kernel
theorem dX2_fewerCoins_32 : decode cX2_fewerCoins 32 = .ok (.ireturn, 1) := by decide +kernel
theorem dX2_fewerCoins_33 : decode cX2_fewerCoins 33 = .ok (.iinc 3 1, 3) := by decide +kernel
theorem dX2_fewerCoins_36 : decode cX2_fewerCoins 36 = .ok (.goto (-34), 3) := by decide +kernel
theorem dX2_fewerCoins_39 : decode cX2_fewerCoins 39 = .ok (.iconst 0, 1) := by decide +kernel
theorem dX2_fewerCoins_40 : decode cX2_fewerCoins 40 = .ok (.ireturn, 1) := by decide +kernel
theorem dX2_yearsTillFree_0 : decode cX2_yearsTillFree 0 = .ok (.iload_n 0, 1) := by decide +kernel
theorem dX2_yearsTillFree_1 : decode cX2_yearsTillFree 1 = .ok (.ifCond .ne 5, 3) := by decide +kernel
theorem dX2_yearsTillFree_4 : decode cX2_yearsTillFree 4 = .ok (.iconst 0, 1) := by decide +kernel
theorem dX2_yearsTillFree_5 : decode cX2_yearsTillFree 5 = .ok (.ireturn, 1) := by decide +kernel
theorem dX2_yearsTillFree_6 : decode cX2_yearsTillFree 6 = .ok (.iload_n 0, 1) := by decide +kernel
theorem dX2_yearsTillFree_7 : decode cX2_yearsTillFree 7 = .ok (.istore_n 3, 1) := by decide +kernel
theorem dX2_yearsTillFree_8 : decode cX2_yearsTillFree 8 = .ok (.iconst 1, 1) := by decide +kernel
theorem dX2_yearsTillFree_9 : decode cX2_yearsTillFree 9 = .ok (.istore 4, 2) := by decide +kernel
theorem dX2_yearsTillFree_11 : decode cX2_yearsTillFree 11 = .ok (.iload 4, 2) := by decide +kernel
theorem dX2_yearsTillFree_13 : decode cX2_yearsTillFree 13 = .ok (.bipush 99, 2) := by decide +kernel
theorem dX2_yearsTillFree_15 : decode cX2_yearsTillFree 15 = .ok (.if_icmp .gt 34, 3) := by decide +kernel
theorem dX2_yearsTillFree_18 : decode cX2_yearsTillFree 18 = .ok (.iconst 0, 1) := by decide +kernel
theorem dX2_yearsTillFree_19 : decode cX2_yearsTillFree 19 = .ok (.iload_n 3, 1) := by decide +kernel
theorem dX2_yearsTillFree_20 : decode cX2_yearsTillFree 20 = .ok (.iload_n 2, 1) := by decide +kernel
theorem dX2_yearsTillFree_21 : decode cX2_yearsTillFree 21 = .ok (.isub, 1) := by decide +kernel
theorem dX2_yearsTillFree_22 : decode cX2_yearsTillFree 22 = .ok (.invokestatic 66, 3) := by decide +kernel
theorem dX2_yearsTillFree_25 : decode cX2_yearsTillFree 25 = .ok (.istore_n 3, 1) := by decide +kernel
theorem dX2_yearsTillFree_26 : decode cX2_yearsTillFree 26 = .ok (.iload_n 3, 1) := by decide +kernel
theorem dX2_yearsTillFree_27 : decode cX2_yearsTillFree 27 = .ok (.ifCond .ne 6, 3) := by decide +kernel
theorem dX2_yearsTillFree_30 : decode cX2_yearsTillFree 30 = .ok (.iload 4, 2) := by decide +kernel
theorem dX2_yearsTillFree_32 : decode cX2_yearsTillFree 32 = .ok (.ireturn, 1) := by decide +kernel
theorem dX2_yearsTillFree_33 : decode cX2_yearsTillFree 33 = .ok (.sipush 999, 3) := by decide +kernel
theorem dX2_yearsTillFree_36 : decode cX2_yearsTillFree 36 = .ok (.iload_n 3, 1) := by decide +kernel
theorem dX2_yearsTillFree_37 : decode cX2_yearsTillFree 37 = .ok (.iload_n 1, 1) := by decide +kernel
theorem dX2_yearsTillFree_38 : decode cX2_yearsTillFree 38 = .ok (.iadd, 1) := by decide +kernel
theorem dX2_yearsTillFree_39 : decode cX2_yearsTillFree 39 = .ok (.invokestatic 60, 3) := by decide +kernel
theorem dX2_yearsTillFree_42 : decode cX2_yearsTillFree 42 = .ok (.istore_n 3, 1) := by decide +kernel
theorem dX2_yearsTillFree_43 : decode cX2_yearsTillFree 43 = .ok (.iinc 4 1, 3) := by decide +kernel
theorem dX2_yearsTillFree_46 : decode cX2_yearsTillFree 46 = .ok (.goto (-35), 3) := by decide +kernel
theorem dX2_yearsTillFree_49 : decode cX2_yearsTillFree 49 = .ok (.bipush (-9), 2) := by decide +kernel
theorem dX2_yearsTillFree_51 : decode cX2_yearsTillFree 51 = .ok (.ireturn, 1) := by decide +kernel
theorem dX3_init_0 : decode cX3_init 0 = .ok (.aload_n 0, 1) := by decide +kernel
theorem dX3_init_1 : decode cX3_init 1 = .ok (.invokespecial 3, 3) := by decide +kernel
theorem dX3_init_4 : decode cX3_init 4 = .ok (.aload_n 0, 1) := by decide +kernel
theorem dX3_init_5 : decode cX3_init 5 = .ok (.bipush 7, 2) := by decide +kernel
theorem dX3_init_7 : decode cX3_init 7 = .ok (.newarray .int, 2) := by decide +kernel
theorem dX3_init_9 : decode cX3_init 9 = .ok (.putfield 9, 3) := by decide +kernel
theorem dX3_init_12 : decode cX3_init 12 = .ok (.aload_n 0, 1) := by decide +kernel
theorem dX3_init_13 : decode cX3_init 13 = .ok (.bipush 7, 2) := by decide +kernel
theorem dX3_init_15 : decode cX3_init 15 = .ok (.newarray .int, 2) := by decide +kernel
theorem dX3_init_17 : decode cX3_init 17 = .ok (.putfield 15, 3) := by decide +kernel
theorem dX3_init_20 : decode cX3_init 20 = .ok (.aload_n 0, 1) := by decide +kernel
theorem dX3_init_21 : decode cX3_init 21 = .ok (.bipush 7, 2) := by decide +kernel
theorem dX3_init_23 : decode cX3_init 23 = .ok (.newarray .int, 2) := by decide +kernel
theorem dX3_init_25 : decode cX3_init 25 = .ok (.putfield 18, 3) := by decide +kernel
theorem dX3_init_28 : decode cX3_init 28 = .ok (.aload_n 0, 1) := by decide +kernel
theorem dX3_init_29 : decode cX3_init 29 = .ok (.bipush 7, 2) := by decide +kernel
theorem dX3_init_31 : decode cX3_init 31 = .ok (.newarray .int, 2) := by decide +kernel
theorem dX3_init_33 : decode cX3_init 33 = .ok (.putfield 21, 3) := by decide +kernel
theorem dX3_init_36 : decode cX3_init 36 = .ok (.aload_n 0, 1) := by decide +kernel
theorem dX3_init_37 : decode cX3_init 37 = .ok (.iconst 5, 1) := by decide +kernel
theorem dX3_init_38 : decode cX3_init 38 = .ok (.newarray .int, 2) := by decide +kernel
theorem dX3_init_40 : decode cX3_init 40 = .ok (.putfield 24, 3) := by decide +kernel
theorem dX3_init_43 : decode cX3_init 43 = .ok (.aload_n 0, 1) := by decide +kernel
theorem dX3_init_44 : decode cX3_init 44 = .ok (.iconst 5, 1) := by decide +kernel
theorem dX3_init_45 : decode cX3_init 45 = .ok (.newarray .int, 2) := by decide +kernel
theorem dX3_init_47 : decode cX3_init 47 = .ok (.putfield 27, 3) := by decide +kernel
theorem dX3_init_50 : decode cX3_init 50 = .ok (.aload_n 0, 1) := by decide +kernel
theorem dX3_init_51 : decode cX3_init 51 = .ok (.iconst 5, 1) := by decide +kernel
theorem dX3_init_52 : decode cX3_init 52 = .ok (.newarray .int, 2) := by decide +kernel
theorem dX3_init_54 : decode cX3_init 54 = .ok (.putfield 30, 3) := by decide +kernel
theorem dX3_init_57 : decode cX3_init 57 = .ok (.aload_n 0, 1) := by decide +kernel
theorem dX3_init_58 : decode cX3_init 58 = .ok (.iconst 0, 1) := by decide +kernel
theorem dX3_init_59 : decode cX3_init 59 = .ok (.putfield 33, 3) := by decide +kernel
theorem dX3_init_62 : decode cX3_init 62 = .ok (.aload_n 0, 1) := by decide +kernel
theorem dX3_init_63 : decode cX3_init 63 = .ok (.iconst 0, 1) := by decide +kernel
theorem dX3_init_64 : decode cX3_init 64 = .ok (.putfield 37, 3) := by decide +kernel
theorem dX3_init_67 : decode cX3_init 67 = .ok (.aload_n 0, 1) := by decide +kernel
theorem dX3_init_68 : decode cX3_init 68 = .ok (.iconst 3, 1) := by decide +kernel
theorem dX3_init_69 : decode cX3_init 69 = .ok (.putfield 40, 3) := by decide +kernel
theorem dX3_init_72 : decode cX3_init 72 = .ok (.aload_n 0, 1) := by decide +kernel
theorem dX3_init_73 : decode cX3_init 73 = .ok (.iconst 3, 1) := by decide +kernel
theorem dX3_init_74 : decode cX3_init 74 = .ok (.putfield 43, 3) := by decide +kernel
theorem dX3_init_77 : decode cX3_init 77 = .ok (.aload_n 0, 1) := by decide +kernel
theorem dX3_init_78 : decode cX3_init 78 = .ok (.iconst 0, 1) := by decide +kernel
theorem dX3_init_79 : decode cX3_init 79 = .ok (.putfield 46, 3) := by decide +kernel
theorem dX3_init_82 : decode cX3_init 82 = .ok (.aload_n 0, 1) := by decide +kernel
theorem dX3_init_83 : decode cX3_init 83 = .ok (.iconst 0, 1) := by decide +kernel
theorem dX3_init_84 : decode cX3_init 84 = .ok (.putfield 50, 3) := by decide +kernel
theorem dX3_init_87 : decode cX3_init 87 = .ok (.return_, 1) := by decide +kernel
theorem dX3_forget_0 : decode cX3_forget 0 = .ok (.aload_n 0, 1) := by decide +kernel
theorem dX3_forget_1 : decode cX3_forget 1 = .ok (.iconst 0, 1) := by decide +kernel
theorem dX3_forget_2 : decode cX3_forget 2 = .ok (.putfield 33, 3) := by decide +kernel
theorem dX3_forget_5 : decode cX3_forget 5 = .ok (.aload_n 0, 1) := by decide +kernel
theorem dX3_forget_6 : decode cX3_forget 6 = .ok (.iconst 0, 1) := by decide +kernel
theorem dX3_forget_7 : decode cX3_forget 7 = .ok (.putfield 37, 3) := by decide +kernel
theorem dX3_forget_10 : decode cX3_forget 10 = .ok (.aload_n 0, 1) := by decide +kernel
theorem dX3_forget_11 : decode cX3_forget 11 = .ok (.iconst 3, 1) := by decide +kernel
theorem dX3_forget_12 : decode cX3_forget 12 = .ok (.putfield 40, 3) := by decide +kernel
theorem dX3_forget_15 : decode cX3_forget 15 = .ok (.aload_n 0, 1) := by decide +kernel
theorem dX3_forget_16 : decode cX3_forget 16 = .ok (.iconst 3, 1) := by decide +kernel
theorem dX3_forget_17 : decode cX3_forget 17 = .ok (.putfield 43, 3) := by decide +kernel
theorem dX3_forget_20 : decode cX3_forget 20 = .ok (.aload_n 0, 1) := by decide +kernel
theorem dX3_forget_21 : decode cX3_forget 21 = .ok (.iconst 0, 1) := by decide +kernel
theorem dX3_forget_22 : decode cX3_forget 22 = .ok (.putfield 46, 3) := by decide +kernel
theorem dX3_forget_25 : decode cX3_forget 25 = .ok (.aload_n 0, 1) := by decide +kernel
theorem dX3_forget_26 : decode cX3_forget 26 = .ok (.iconst 0, 1) := by decide +kernel
theorem dX3_forget_27 : decode cX3_forget 27 = .ok (.putfield 50, 3) := by decide +kernel
theorem dX3_forget_30 : decode cX3_forget 30 = .ok (.return_, 1) := by decide +kernel
theorem dX3_hasStair_0 : decode cX3_hasStair 0 = .ok (.iload_n 1, 1) := by decide +kernel
theorem dX3_hasStair_1 : decode cX3_hasStair 1 = .ok (.ifCond .lt 15, 3) := by decide +kernel
theorem dX3_hasStair_4 : decode cX3_hasStair 4 = .ok (.iload_n 1, 1) := by decide +kernel
theorem dX3_hasStair_5 : decode cX3_hasStair 5 = .ok (.aload_n 0, 1) := by decide +kernel
theorem dX3_hasStair_6 : decode cX3_hasStair 6 = .ok (.getfield 33, 3) := by decide +kernel
theorem dX3_hasStair_9 : decode cX3_hasStair 9 = .ok (.if_icmp .ge 7, 3) := by decide +kernel
theorem dX3_hasStair_12 : decode cX3_hasStair 12 = .ok (.iconst 1, 1) := by decide +kernel
theorem dX3_hasStair_13 : decode cX3_hasStair 13 = .ok (.goto 4, 3) := by decide +kernel
theorem dX3_hasStair_16 : decode cX3_hasStair 16 = .ok (.iconst 0, 1) := by decide +kernel
theorem dX3_hasStair_17 : decode cX3_hasStair 17 = .ok (.ireturn, 1) := by decide +kernel
theorem dX3_hasTwoStairs_0 : decode cX3_hasTwoStairs 0 = .ok (.aload_n 0, 1) := by decide +kernel
theorem dX3_hasTwoStairs_1 : decode cX3_hasTwoStairs 1 = .ok (.iload_n 1, 1) := by decide +kernel
theorem dX3_hasTwoStairs_2 : decode cX3_hasTwoStairs 2 = .ok (.invokevirtual 53, 3) := by decide +kernel
theorem dX3_hasTwoStairs_5 : decode cX3_hasTwoStairs 5 = .ok (.ifCond .eq 20, 3) := by decide +kernel
theorem dX3_hasTwoStairs_8 : decode cX3_hasTwoStairs 8 = .ok (.aload_n 0, 1) := by decide +kernel
theorem dX3_hasTwoStairs_9 : decode cX3_hasTwoStairs 9 = .ok (.iload_n 2, 1) := by decide +kernel
theorem dX3_hasTwoStairs_10 : decode cX3_hasTwoStairs 10 = .ok (.invokevirtual 53, 3) := by decide +kernel
theorem dX3_hasTwoStairs_13 : decode cX3_hasTwoStairs 13 = .ok (.ifCond .eq 12, 3) := by decide +kernel
theorem dX3_hasTwoStairs_16 : decode cX3_hasTwoStairs 16 = .ok (.iload_n 1, 1) := by decide +kernel
theorem dX3_hasTwoStairs_17 : decode cX3_hasTwoStairs 17 = .ok (.iload_n 2, 1) := by decide +kernel
theorem dX3_hasTwoStairs_18 : decode cX3_hasTwoStairs 18 = .ok (.if_icmp .eq 7, 3) := by decide +kernel
theorem dX3_hasTwoStairs_21 : decode cX3_hasTwoStairs 21 = .ok (.iconst 1, 1) := by decide +kernel
theorem dX3_hasTwoStairs_22 : decode cX3_hasTwoStairs 22 = .ok (.goto 4, 3) := by decide +kernel
theorem dX3_hasTwoStairs_25 : decode cX3_hasTwoStairs 25 = .ok (.iconst 0, 1) := by decide +kernel
theorem dX3_hasTwoStairs_26 : decode cX3_hasTwoStairs 26 = .ok (.ireturn, 1) := by decide +kernel
theorem dX3_hasPerson_0 : decode cX3_hasPerson 0 = .ok (.iload_n 1, 1) := by decide +kernel
theorem dX3_hasPerson_1 : decode cX3_hasPerson 1 = .ok (.ifCond .lt 15, 3) := by decide +kernel
theorem dX3_hasPerson_4 : decode cX3_hasPerson 4 = .ok (.iload_n 1, 1) := by decide +kernel
theorem dX3_hasPerson_5 : decode cX3_hasPerson 5 = .ok (.aload_n 0, 1) := by decide +kernel
theorem dX3_hasPerson_6 : decode cX3_hasPerson 6 = .ok (.getfield 37, 3) := by decide +kernel
theorem dX3_hasPerson_9 : decode cX3_hasPerson 9 = .ok (.if_icmp .ge 7, 3) := by decide +kernel
theorem dX3_hasPerson_12 : decode cX3_hasPerson 12 = .ok (.iconst 1, 1) := by decide +kernel
theorem dX3_hasPerson_13 : decode cX3_hasPerson 13 = .ok (.goto 4, 3) := by decide +kernel
theorem dX3_hasPerson_16 : decode cX3_hasPerson 16 = .ok (.iconst 0, 1) := by decide +kernel
theorem dX3_hasPerson_17 : decode cX3_hasPerson 17 = .ok (.ireturn, 1) := by decide +kernel
theorem dX3_halvesOf_0 : decode cX3_halvesOf 0 = .ok (.aload_n 0, 1) := by decide +kernel
theorem dX3_halvesOf_1 : decode cX3_halvesOf 1 = .ok (.getfield 24, 3) := by decide +kernel
theorem dX3_halvesOf_4 : decode cX3_halvesOf 4 = .ok (.iload_n 1, 1) := by decide +kernel
theorem dX3_halvesOf_5 : decode cX3_halvesOf 5 = .ok (.iaload, 1) := by decide +kernel
theorem dX3_halvesOf_6 : decode cX3_halvesOf 6 = .ok (.iconst 1, 1) := by decide +kernel
theorem dX3_halvesOf_7 : decode cX3_halvesOf 7 = .ok (.if_icmp .ne 7, 3) := by decide +kernel
theorem dX3_halvesOf_10 : decode cX3_halvesOf 10 = .ok (.iconst 1, 1) := by decide +kernel
theorem dX3_halvesOf_11 : decode cX3_halvesOf 11 = .ok (.goto 4, 3) := by decide +kernel
theorem dX3_halvesOf_14 : decode cX3_halvesOf 14 = .ok (.iconst 2, 1) := by decide +kernel
theorem dX3_halvesOf_15 : decode cX3_halvesOf 15 = .ok (.ireturn, 1) := by decide +kernel
end
section
theorem dX4_init_0 : decode cX4_init 0 = .ok (.aload_n 0, 1) := by decide +kernel
theorem dX4_init_1 : decode cX4_init 1 = .ok (.invokespecial 3, 3) := by decide +kernel
theorem dX4_init_4 : decode cX4_init 4 = .ok (.aload_n 0, 1) := by decide +kernel
theorem dX4_init_5 : decode cX4_init 5 = .ok (.sipush 200, 3) := by decide +kernel
theorem dX4_init_8 : decode cX4_init 8 = .ok (.newarray .int, 2) := by decide +kernel
theorem dX4_init_10 : decode cX4_init 10 = .ok (.putfield 9, 3) := by decide +kernel
theorem dX4_init_13 : decode cX4_init 13 = .ok (.aload_n 0, 1) := by decide +kernel
theorem dX4_init_14 : decode cX4_init 14 = .ok (.iconst 0, 1) := by decide +kernel
theorem dX4_init_15 : decode cX4_init 15 = .ok (.putfield 15, 3) := by decide +kernel
theorem dX4_init_18 : decode cX4_init 18 = .ok (.aload_n 0, 1) := by decide +kernel
theorem dX4_init_19 : decode cX4_init 19 = .ok (.iconst 0, 1) := by decide +kernel
theorem dX4_init_20 : decode cX4_init 20 = .ok (.putfield 19, 3) := by decide +kernel
theorem dX4_init_23 : decode cX4_init 23 = .ok (.aload_n 0, 1) := by decide +kernel
theorem dX4_init_24 : decode cX4_init 24 = .ok (.iconst 0, 1) := by decide +kernel
theorem dX4_init_25 : decode cX4_init 25 = .ok (.putfield 22, 3) := by decide +kernel
theorem dX4_init_28 : decode cX4_init 28 = .ok (.aload_n 0, 1) := by decide +kernel
theorem dX4_init_29 : decode cX4_init 29 = .ok (.iconst 0, 1) := by decide +kernel
theorem dX4_init_30 : decode cX4_init 30 = .ok (.putfield 25, 3) := by decide +kernel
theorem dX4_init_33 : decode cX4_init 33 = .ok (.aload_n 0, 1) := by decide +kernel
theorem dX4_init_34 : decode cX4_init 34 = .ok (.iconst (-1), 1) := by decide +kernel
theorem dX4_init_35 : decode cX4_init 35 = .ok (.putfield 28, 3) := by decide +kernel
theorem dX4_init_38 : decode cX4_init 38 = .ok (.return_, 1) := by decide +kernel
theorem dX4_take_0 : decode cX4_take 0 = .ok (.aload_n 0, 1) := by decide +kernel
theorem dX4_take_1 : decode cX4_take 1 = .ok (.getfield 15, 3) := by decide +kernel
theorem dX4_take_4 : decode cX4_take 4 = .ok (.sipush 200, 3) := by decide +kernel
theorem dX4_take_7 : decode cX4_take 7 = .ok (.if_icmp .lt 5, 3) := by decide +kernel
theorem dX4_take_10 : decode cX4_take 10 = .ok (.iconst 0, 1) := by decide +kernel
theorem dX4_take_11 : decode cX4_take 11 = .ok (.ireturn, 1) := by decide +kernel
theorem dX4_take_12 : decode cX4_take 12 = .ok (.aload_n 0, 1) := by decide +kernel
theorem dX4_take_13 : decode cX4_take 13 = .ok (.getfield 9, 3) := by decide +kernel
theorem dX4_take_16 : decode cX4_take 16 = .ok (.aload_n 0, 1) := by decide +kernel
theorem dX4_take_17 : decode cX4_take 17 = .ok (.getfield 15, 3) := by decide +kernel
theorem dX4_take_20 : decode cX4_take 20 = .ok (.iload_n 1, 1) := by decide +kernel
theorem dX4_take_21 : decode cX4_take 21 = .ok (.iastore, 1) := by decide +kernel
theorem dX4_take_22 : decode cX4_take 22 = .ok (.aload_n 0, 1) := by decide +kernel
theorem dX4_take_23 : decode cX4_take 23 = .ok (.dup, 1) := by decide +kernel
theorem dX4_take_24 : decode cX4_take 24 = .ok (.getfield 15, 3) := by decide +kernel
theorem dX4_take_27 : decode cX4_take 27 = .ok (.iconst 1, 1) := by decide +kernel
theorem dX4_take_28 : decode cX4_take 28 = .ok (.iadd, 1) := by decide +kernel
theorem dX4_take_29 : decode cX4_take 29 = .ok (.putfield 15, 3) := by decide +kernel
theorem dX4_take_32 : decode cX4_take 32 = .ok (.iconst 1, 1) := by decide +kernel
theorem dX4_take_33 : decode cX4_take 33 = .ok (.ireturn, 1) := by decide +kernel
theorem dX4_empty_0 : decode cX4_empty 0 = .ok (.aload_n 0, 1) := by decide +kernel
theorem dX4_empty_1 : decode cX4_empty 1 = .ok (.iconst 0, 1) := by decide +kernel
theorem dX4_empty_2 : decode cX4_empty 2 = .ok (.putfield 15, 3) := by decide +kernel
theorem dX4_empty_5 : decode cX4_empty 5 = .ok (.return_, 1) := by decide +kernel
theorem dX4_readInto_0 : decode cX4_readInto 0 = .ok (.aload_n 1, 1) := by decide +kernel
theorem dX4_readInto_1 : decode cX4_readInto 1 = .ok (.invokevirtual 31, 3) := by decide +kernel
theorem dX4_readInto_4 : decode cX4_readInto 4 = .ok (.aload_n 0, 1) := by decide +kernel
theorem dX4_readInto_5 : decode cX4_readInto 5 = .ok (.iconst 0, 1) := by decide +kernel
theorem dX4_readInto_6 : decode cX4_readInto 6 = .ok (.putfield 19, 3) := by decide +kernel
theorem dX4_readInto_9 : decode cX4_readInto 9 = .ok (.iconst 0, 1) := by decide +kernel
theorem dX4_readInto_10 : decode cX4_readInto 10 = .ok (.istore_n 2, 1) := by decide +kernel
theorem dX4_readInto_11 : decode cX4_readInto 11 = .ok (.iconst 0, 1) := by decide +kernel
theorem dX4_readInto_12 : decode cX4_readInto 12 = .ok (.istore_n 3, 1) := by decide +kernel
theorem dX4_readInto_13 : decode cX4_readInto 13 = .ok (.iload_n 3, 1) := by decide +kernel
theorem dX4_readInto_14 : decode cX4_readInto 14 = .ok (.sipush 200, 3) := by decide +kernel
theorem dX4_readInto_17 : decode cX4_readInto 17 = .ok (.if_icmp .gt 41, 3) := by decide +kernel
theorem dX4_readInto_20 : decode cX4_readInto 20 = .ok (.aload_n 0, 1) := by decide +kernel
theorem dX4_readInto_21 : decode cX4_readInto 21 = .ok (.invokevirtual 36, 3) := by decide +kernel
theorem dX4_readInto_24 : decode cX4_readInto 24 = .ok (.aload_n 0, 1) := by decide +kernel
theorem dX4_readInto_25 : decode cX4_readInto 25 = .ok (.getfield 25, 3) := by decide +kernel
theorem dX4_readInto_28 : decode cX4_readInto 28 = .ok (.ifCond .ne 5, 3) := by decide +kernel
theorem dX4_readInto_31 : decode cX4_readInto 31 = .ok (.iload_n 2, 1) := by decide +kernel
theorem dX4_readInto_32 : decode cX4_readInto 32 = .ok (.ireturn, 1) := by decide +kernel
theorem dX4_readInto_33 : decode cX4_readInto 33 = .ok (.aload_n 0, 1) := by decide +kernel
theorem dX4_readInto_34 : decode cX4_readInto 34 = .ok (.aload_n 1, 1) := by decide +kernel
theorem dX4_readInto_35 : decode cX4_readInto 35 = .ok (.invokevirtual 39, 3) := by decide +kernel
theorem dX4_readInto_38 : decode cX4_readInto 38 = .ok (.ifCond .ne 11, 3) := by decide +kernel
theorem dX4_readInto_41 : decode cX4_readInto 41 = .ok (.bipush (-10), 2) := by decide +kernel
theorem dX4_readInto_43 : decode cX4_readInto 43 = .ok (.aload_n 0, 1) := by decide +kernel
theorem dX4_readInto_44 : decode cX4_readInto 44 = .ok (.getfield 22, 3) := by decide +kernel
theorem dX4_readInto_47 : decode cX4_readInto 47 = .ok (.isub, 1) := by decide +kernel
theorem dX4_readInto_48 : decode cX4_readInto 48 = .ok (.ireturn, 1) := by decide +kernel
theorem dX4_readInto_49 : decode cX4_readInto 49 = .ok (.iinc 2 1, 3) := by decide +kernel
theorem dX4_readInto_52 : decode cX4_readInto 52 = .ok (.iinc 3 1, 3) := by decide +kernel
theorem dX4_readInto_55 : decode cX4_readInto 55 = .ok (.goto (-42), 3) := by decide +kernel
theorem dX4_readInto_58 : decode cX4_readInto 58 = .ok (.iload_n 2, 1) := by decide +kernel
theorem dX4_readInto_59 : decode cX4_readInto 59 = .ok (.ireturn, 1) := by decide +kernel
theorem dX4_readItem_0 : decode cX4_readItem 0 = .ok (.aload_n 0, 1) := by decide +kernel
theorem dX4_readItem_1 : decode cX4_readItem 1 = .ok (.getfield 25, 3) := by decide +kernel
theorem dX4_readItem_4 : decode cX4_readItem 4 = .ok (.iconst 1, 1) := by decide +kernel
theorem dX4_readItem_5 : decode cX4_readItem 5 = .ok (.if_icmp .eq 5, 3) := by decide +kernel
theorem dX4_readItem_8 : decode cX4_readItem 8 = .ok (.iconst 0, 1) := by decide +kernel
theorem dX4_readItem_9 : decode cX4_readItem 9 = .ok (.ireturn, 1) := by decide +kernel
theorem dX4_readItem_10 : decode cX4_readItem 10 = .ok (.aload_n 0, 1) := by decide +kernel
theorem dX4_readItem_11 : decode cX4_readItem 11 = .ok (.getfield 28, 3) := by decide +kernel
theorem dX4_readItem_14 : decode cX4_readItem 14 = .ok (.lookupswitch 126 #[(100, 84), (112, 63), (115, 42), (116, 105)], 42) := by decide +kernel
theorem dX4_readItem_56 : decode cX4_readItem 56 = .ok (.aload_n 0, 1) := by decide +kernel
theorem dX4_readItem_57 : decode cX4_readItem 57 = .ok (.aload_n 1, 1) := by decide +kernel
theorem dX4_readItem_58 : decode cX4_readItem 58 = .ok (.invokevirtual 43, 3) := by decide +kernel
theorem dX4_readItem_61 : decode cX4_readItem 61 = .ok (.ifCond .eq 14, 3) := by decide +kernel
theorem dX4_readItem_64 : decode cX4_readItem 64 = .ok (.aload_n 0, 1) := by decide +kernel
theorem dX4_readItem_65 : decode cX4_readItem 65 = .ok (.invokevirtual 46, 3) := by decide +kernel
theorem dX4_readItem_68 : decode cX4_readItem 68 = .ok (.ifCond .eq 7, 3) := by decide +kernel
theorem dX4_readItem_71 : decode cX4_readItem 71 = .ok (.iconst 1, 1) := by decide +kernel
theorem dX4_readItem_72 : decode cX4_readItem 72 = .ok (.goto 4, 3) := by decide +kernel
theorem dX4_readItem_75 : decode cX4_readItem 75 = .ok (.iconst 0, 1) := by decide +kernel
theorem dX4_readItem_76 : decode cX4_readItem 76 = .ok (.ireturn, 1) := by decide +kernel
theorem dX4_readItem_77 : decode cX4_readItem 77 = .ok (.aload_n 0, 1) := by decide +kernel
theorem dX4_readItem_78 : decode cX4_readItem 78 = .ok (.aload_n 1, 1) := by decide +kernel
theorem dX4_readItem_79 : decode cX4_readItem 79 = .ok (.invokevirtual 50, 3) := by decide +kernel
theorem dX4_readItem_82 : decode cX4_readItem 82 = .ok (.ifCond .eq 14, 3) := by decide +kernel
theorem dX4_readItem_85 : decode cX4_readItem 85 = .ok (.aload_n 0, 1) := by decide +kernel
theorem dX4_readItem_86 : decode cX4_readItem 86 = .ok (.invokevirtual 46, 3) := by decide +kernel
theorem dX4_readItem_89 : decode cX4_readItem 89 = .ok (.ifCond .eq 7, 3) := by decide +kernel
theorem dX4_readItem_92 : decode cX4_readItem 92 = .ok (.iconst 1, 1) := by decide +kernel
theorem dX4_readItem_93 : decode cX4_readItem 93 = .ok (.goto 4, 3) := by decide +kernel
theorem dX4_readItem_96 : decode cX4_readItem 96 = .ok (.iconst 0, 1) := by decide +kernel
theorem dX4_readItem_97 : decode cX4_readItem 97 = .ok (.ireturn, 1) := by decide +kernel
theorem dX4_readItem_98 : decode cX4_readItem 98 = .ok (.aload_n 0, 1) := by decide +kernel
theorem dX4_readItem_99 : decode cX4_readItem 99 = .ok (.aload_n 1, 1) := by decide +kernel
theorem dX4_readItem_100 : decode cX4_readItem 100 = .ok (.invokevirtual 53, 3) := by decide +kernel
theorem dX4_readItem_103 : decode cX4_readItem 103 = .ok (.ifCond .eq 14, 3) := by decide +kernel
theorem dX4_readItem_106 : decode cX4_readItem 106 = .ok (.aload_n 0, 1) := by decide +kernel
theorem dX4_readItem_107 : decode cX4_readItem 107 = .ok (.invokevirtual 46, 3) := by decide +kernel
theorem dX4_readItem_110 : decode cX4_readItem 110 = .ok (.ifCond .eq 7, 3) := by decide +kernel
theorem dX4_readItem_113 : decode cX4_readItem 113 = .ok (.iconst 1, 1) := by decide +kernel
theorem dX4_readItem_114 : decode cX4_readItem 114 = .ok (.goto 4, 3) := by decide +kernel
theorem dX4_readItem_117 : decode cX4_readItem 117 = .ok (.iconst 0, 1) := by decide +kernel
theorem dX4_readItem_118 : decode cX4_readItem 118 = .ok (.ireturn, 1) := by decide +kernel
theorem dX4_readItem_119 : decode cX4_readItem 119 = .ok (.aload_n 0, 1) := by decide +kernel
theorem dX4_readItem_120 : decode cX4_readItem 120 = .ok (.aload_n 1, 1) := by decide +kernel
theorem dX4_readItem_121 : decode cX4_readItem 121 = .ok (.invokevirtual 56, 3) := by decide +kernel
theorem dX4_readItem_124 : decode cX4_readItem 124 = .ok (.ifCond .eq 14, 3) := by decide +kernel
theorem dX4_readItem_127 : decode cX4_readItem 127 = .ok (.aload_n 0, 1) := by decide +kernel
theorem dX4_readItem_128 : decode cX4_readItem 128 = .ok (.invokevirtual 46, 3) := by decide +kernel
theorem dX4_readItem_131 : decode cX4_readItem 131 = .ok (.ifCond .eq 7, 3) := by decide +kernel
theorem dX4_readItem_134 : decode cX4_readItem 134 = .ok (.iconst 1, 1) := by decide +kernel
theorem dX4_readItem_135 : decode cX4_readItem 135 = .ok (.goto 4, 3) := by decide +kernel
theorem dX4_readItem_138 : decode cX4_readItem 138 = .ok (.iconst 0, 1) := by decide +kernel
theorem dX4_readItem_139 : decode cX4_readItem 139 = .ok (.ireturn, 1) := by decide +kernel
theorem dX4_readItem_140 : decode cX4_readItem 140 = .ok (.iconst 0, 1) := by decide +kernel
theorem dX4_readItem_141 : decode cX4_readItem 141 = .ok (.ireturn, 1) := by decide +kernel
theorem dX4_readStair_0 : decode cX4_readStair 0 = .ok (.aload_n 1, 1) := by decide +kernel
theorem dX4_readStair_1 : decode cX4_readStair 1 = .ok (.getfield 59, 3) := by decide +kernel
theorem dX4_readStair_4 : decode cX4_readStair 4 = .ok (.istore_n 2, 1) := by decide +kernel
theorem dX4_readStair_5 : decode cX4_readStair 5 = .ok (.iload_n 2, 1) := by decide +kernel
theorem dX4_readStair_6 : decode cX4_readStair 6 = .ok (.bipush 7, 2) := by decide +kernel
theorem dX4_readStair_8 : decode cX4_readStair 8 = .ok (.if_icmp .ge 13, 3) := by decide +kernel
theorem dX4_readStair_11 : decode cX4_readStair 11 = .ok (.aload_n 0, 1) := by decide +kernel
theorem dX4_readStair_12 : decode cX4_readStair 12 = .ok (.iconst 0, 1) := by decide +kernel
theorem dX4_readStair_13 : decode cX4_readStair 13 = .ok (.bipush 6, 2) := by decide +kernel
theorem dX4_readStair_15 : decode cX4_readStair 15 = .ok (.invokevirtual 62, 3) := by decide +kernel
theorem dX4_readStair_18 : decode cX4_readStair 18 = .ok (.ifCond .ne 5, 3) := by decide +kernel
theorem dX4_readStair_21 : decode cX4_readStair 21 = .ok (.iconst 0, 1) := by decide +kernel
theorem dX4_readStair_22 : decode cX4_readStair 22 = .ok (.ireturn, 1) := by decide +kernel
theorem dX4_readStair_23 : decode cX4_readStair 23 = .ok (.aload_n 1, 1) := by decide +kernel
theorem dX4_readStair_24 : decode cX4_readStair 24 = .ok (.getfield 66, 3) := by decide +kernel
theorem dX4_readStair_27 : decode cX4_readStair 27 = .ok (.iload_n 2, 1) := by decide +kernel
theorem dX4_readStair_28 : decode cX4_readStair 28 = .ok (.aload_n 0, 1) := by decide +kernel
theorem dX4_readStair_29 : decode cX4_readStair 29 = .ok (.getfield 28, 3) := by decide +kernel
theorem dX4_readStair_32 : decode cX4_readStair 32 = .ok (.iastore, 1) := by decide +kernel
theorem dX4_readStair_33 : decode cX4_readStair 33 = .ok (.aload_n 0, 1) := by decide +kernel
theorem dX4_readStair_34 : decode cX4_readStair 34 = .ok (.iconst 0, 1) := by decide +kernel
theorem dX4_readStair_35 : decode cX4_readStair 35 = .ok (.bipush 6, 2) := by decide +kernel
theorem dX4_readStair_37 : decode cX4_readStair 37 = .ok (.invokevirtual 62, 3) := by decide +kernel
theorem dX4_readStair_40 : decode cX4_readStair 40 = .ok (.ifCond .eq 16, 3) := by decide +kernel
theorem dX4_readStair_43 : decode cX4_readStair 43 = .ok (.aload_n 0, 1) := by decide +kernel
theorem dX4_readStair_44 : decode cX4_readStair 44 = .ok (.getfield 28, 3) := by decide +kernel
theorem dX4_readStair_47 : decode cX4_readStair 47 = .ok (.aload_n 1, 1) := by decide +kernel
theorem dX4_readStair_48 : decode cX4_readStair 48 = .ok (.getfield 66, 3) := by decide +kernel
theorem dX4_readStair_51 : decode cX4_readStair 51 = .ok (.iload_n 2, 1) := by decide +kernel
theorem dX4_readStair_52 : decode cX4_readStair 52 = .ok (.iaload, 1) := by decide +kernel
theorem dX4_readStair_53 : decode cX4_readStair 53 = .ok (.if_icmp .ne 5, 3) := by decide +kernel
theorem dX4_readStair_56 : decode cX4_readStair 56 = .ok (.iconst 0, 1) := by decide +kernel
theorem dX4_readStair_57 : decode cX4_readStair 57 = .ok (.ireturn, 1) := by decide +kernel
theorem dX4_readStair_58 : decode cX4_readStair 58 = .ok (.aload_n 1, 1) := by decide +kernel
theorem dX4_readStair_59 : decode cX4_readStair 59 = .ok (.getfield 69, 3) := by decide +kernel
theorem dX4_readStair_62 : decode cX4_readStair 62 = .ok (.iload_n 2, 1) := by decide +kernel
theorem dX4_readStair_63 : decode cX4_readStair 63 = .ok (.aload_n 0, 1) := by decide +kernel
theorem dX4_readStair_64 : decode cX4_readStair 64 = .ok (.getfield 28, 3) := by decide +kernel
theorem dX4_readStair_67 : decode cX4_readStair 67 = .ok (.iastore, 1) := by decide +kernel
theorem dX4_readStair_68 : decode cX4_readStair 68 = .ok (.aload_n 0, 1) := by decide +kernel
theorem dX4_readStair_69 : decode cX4_readStair 69 = .ok (.iconst 1, 1) := by decide +kernel
theorem dX4_readStair_70 : decode cX4_readStair 70 = .ok (.bipush 99, 2) := by decide +kernel
theorem dX4_readStair_72 : decode cX4_readStair 72 = .ok (.invokevirtual 62, 3) := by decide +kernel
theorem dX4_readStair_75 : decode cX4_readStair 75 = .ok (.ifCond .ne 5, 3) := by decide +kernel
theorem dX4_readStair_78 : decode cX4_readStair 78 = .ok (.iconst 0, 1) := by decide +kernel
theorem dX4_readStair_79 : decode cX4_readStair 79 = .ok (.ireturn, 1) := by decide +kernel
theorem dX4_readStair_80 : decode cX4_readStair 80 = .ok (.aload_n 1, 1) := by decide +kernel
theorem dX4_readStair_81 : decode cX4_readStair 81 = .ok (.getfield 72, 3) := by decide +kernel
theorem dX4_readStair_84 : decode cX4_readStair 84 = .ok (.iload_n 2, 1) := by decide +kernel
theorem dX4_readStair_85 : decode cX4_readStair 85 = .ok (.aload_n 0, 1) := by decide +kernel
theorem dX4_readStair_86 : decode cX4_readStair 86 = .ok (.getfield 28, 3) := by decide +kernel
theorem dX4_readStair_89 : decode cX4_readStair 89 = .ok (.iastore, 1) := by decide +kernel
theorem dX4_readStair_90 : decode cX4_readStair 90 = .ok (.aload_n 0, 1) := by decide +kernel
theorem dX4_readStair_91 : decode cX4_readStair 91 = .ok (.iconst 0, 1) := by decide +kernel
theorem dX4_readStair_92 : decode cX4_readStair 92 = .ok (.bipush 40, 2) := by decide +kernel
theorem dX4_readStair_94 : decode cX4_readStair 94 = .ok (.invokevirtual 62, 3) := by decide +kernel
theorem dX4_readStair_97 : decode cX4_readStair 97 = .ok (.ifCond .ne 5, 3) := by decide +kernel
theorem dX4_readStair_100 : decode cX4_readStair 100 = .ok (.iconst 0, 1) := by decide +kernel
theorem dX4_readStair_101 : decode cX4_readStair 101 = .ok (.ireturn, 1) := by decide +kernel
theorem dX4_readStair_102 : decode cX4_readStair 102 = .ok (.aload_n 1, 1) := by decide +kernel
theorem dX4_readStair_103 : decode cX4_readStair 103 = .ok (.getfield 75, 3) := by decide +kernel
theorem dX4_readStair_106 : decode cX4_readStair 106 = .ok (.iload_n 2, 1) := by decide +kernel
theorem dX4_readStair_107 : decode cX4_readStair 107 = .ok (.aload_n 0, 1) := by decide +kernel
theorem dX4_readStair_108 : decode cX4_readStair 108 = .ok (.getfield 28, 3) := by decide +kernel
theorem dX4_readStair_111 : decode cX4_readStair 111 = .ok (.iastore, 1) := by decide +kernel
theorem dX4_readStair_112 : decode cX4_readStair 112 = .ok (.aload_n 1, 1) := by decide +kernel
theorem dX4_readStair_113 : decode cX4_readStair 113 = .ok (.dup, 1) := by decide +kernel
theorem dX4_readStair_114 : decode cX4_readStair 114 = .ok (.getfield 59, 3) := by decide +kernel
theorem dX4_readStair_117 : decode cX4_readStair 117 = .ok (.iconst 1, 1) := by decide +kernel
theorem dX4_readStair_118 : decode cX4_readStair 118 = .ok (.iadd, 1) := by decide +kernel
theorem dX4_readStair_119 : decode cX4_readStair 119 = .ok (.putfield 59, 3) := by decide +kernel
theorem dX4_readStair_122 : decode cX4_readStair 122 = .ok (.iconst 1, 1) := by decide +kernel
theorem dX4_readStair_123 : decode cX4_readStair 123 = .ok (.ireturn, 1) := by decide +kernel
theorem dX4_readPerson_0 : decode cX4_readPerson 0 = .ok (.aload_n 1, 1) := by decide +kernel
theorem dX4_readPerson_1 : decode cX4_readPerson 1 = .ok (.getfield 78, 3) := by decide +kernel
theorem dX4_readPerson_4 : decode cX4_readPerson 4 = .ok (.istore_n 2, 1) := by decide +kernel
theorem dX4_readPerson_5 : decode cX4_readPerson 5 = .ok (.iload_n 2, 1) := by decide +kernel
theorem dX4_readPerson_6 : decode cX4_readPerson 6 = .ok (.iconst 5, 1) := by decide +kernel
theorem dX4_readPerson_7 : decode cX4_readPerson 7 = .ok (.if_icmp .ge 12, 3) := by decide +kernel
theorem dX4_readPerson_10 : decode cX4_readPerson 10 = .ok (.aload_n 0, 1) := by decide +kernel
theorem dX4_readPerson_11 : decode cX4_readPerson 11 = .ok (.iconst 0, 1) := by decide +kernel
theorem dX4_readPerson_12 : decode cX4_readPerson 12 = .ok (.iconst 1, 1) := by decide +kernel
theorem dX4_readPerson_13 : decode cX4_readPerson 13 = .ok (.invokevirtual 62, 3) := by decide +kernel
theorem dX4_readPerson_16 : decode cX4_readPerson 16 = .ok (.ifCond .ne 5, 3) := by decide +kernel
theorem dX4_readPerson_19 : decode cX4_readPerson 19 = .ok (.iconst 0, 1) := by decide +kernel
theorem dX4_readPerson_20 : decode cX4_readPerson 20 = .ok (.ireturn, 1) := by decide +kernel
theorem dX4_readPerson_21 : decode cX4_readPerson 21 = .ok (.aload_n 1, 1) := by decide +kernel
theorem dX4_readPerson_22 : decode cX4_readPerson 22 = .ok (.getfield 81, 3) := by decide +kernel
theorem dX4_readPerson_25 : decode cX4_readPerson 25 = .ok (.iload_n 2, 1) := by decide +kernel
theorem dX4_readPerson_26 : decode cX4_readPerson 26 = .ok (.aload_n 0, 1) := by decide +kernel
theorem dX4_readPerson_27 : decode cX4_readPerson 27 = .ok (.getfield 28, 3) := by decide +kernel
theorem dX4_readPerson_30 : decode cX4_readPerson 30 = .ok (.iastore, 1) := by decide +kernel
theorem dX4_readPerson_31 : decode cX4_readPerson 31 = .ok (.aload_n 0, 1) := by decide +kernel
theorem dX4_readPerson_32 : decode cX4_readPerson 32 = .ok (.iconst 0, 1) := by decide +kernel
theorem dX4_readPerson_33 : decode cX4_readPerson 33 = .ok (.bipush 10, 2) := by decide +kernel
theorem dX4_readPerson_35 : decode cX4_readPerson 35 = .ok (.invokevirtual 62, 3) := by decide +kernel
theorem dX4_readPerson_38 : decode cX4_readPerson 38 = .ok (.ifCond .ne 5, 3) := by decide +kernel
theorem dX4_readPerson_41 : decode cX4_readPerson 41 = .ok (.iconst 0, 1) := by decide +kernel
theorem dX4_readPerson_42 : decode cX4_readPerson 42 = .ok (.ireturn, 1) := by decide +kernel
theorem dX4_readPerson_43 : decode cX4_readPerson 43 = .ok (.aload_n 1, 1) := by decide +kernel
theorem dX4_readPerson_44 : decode cX4_readPerson 44 = .ok (.getfield 84, 3) := by decide +kernel
theorem dX4_readPerson_47 : decode cX4_readPerson 47 = .ok (.iload_n 2, 1) := by decide +kernel
theorem dX4_readPerson_48 : decode cX4_readPerson 48 = .ok (.aload_n 0, 1) := by decide +kernel
theorem dX4_readPerson_49 : decode cX4_readPerson 49 = .ok (.getfield 28, 3) := by decide +kernel
theorem dX4_readPerson_52 : decode cX4_readPerson 52 = .ok (.iastore, 1) := by decide +kernel
theorem dX4_readPerson_53 : decode cX4_readPerson 53 = .ok (.aload_n 0, 1) := by decide +kernel
theorem dX4_readPerson_54 : decode cX4_readPerson 54 = .ok (.iconst 0, 1) := by decide +kernel
theorem dX4_readPerson_55 : decode cX4_readPerson 55 = .ok (.bipush 9, 2) := by decide +kernel
theorem dX4_readPerson_57 : decode cX4_readPerson 57 = .ok (.invokevirtual 62, 3) := by decide +kernel
theorem dX4_readPerson_60 : decode cX4_readPerson 60 = .ok (.ifCond .ne 5, 3) := by decide +kernel
theorem dX4_readPerson_63 : decode cX4_readPerson 63 = .ok (.iconst 0, 1) := by decide +kernel
theorem dX4_readPerson_64 : decode cX4_readPerson 64 = .ok (.ireturn, 1) := by decide +kernel
theorem dX4_readPerson_65 : decode cX4_readPerson 65 = .ok (.aload_n 1, 1) := by decide +kernel
theorem dX4_readPerson_66 : decode cX4_readPerson 66 = .ok (.getfield 87, 3) := by decide +kernel
theorem dX4_readPerson_69 : decode cX4_readPerson 69 = .ok (.iload_n 2, 1) := by decide +kernel
theorem dX4_readPerson_70 : decode cX4_readPerson 70 = .ok (.aload_n 0, 1) := by decide +kernel
theorem dX4_readPerson_71 : decode cX4_readPerson 71 = .ok (.getfield 28, 3) := by decide +kernel
theorem dX4_readPerson_74 : decode cX4_readPerson 74 = .ok (.iastore, 1) := by decide +kernel
theorem dX4_readPerson_75 : decode cX4_readPerson 75 = .ok (.aload_n 1, 1) := by decide +kernel
theorem dX4_readPerson_76 : decode cX4_readPerson 76 = .ok (.dup, 1) := by decide +kernel
theorem dX4_readPerson_77 : decode cX4_readPerson 77 = .ok (.getfield 78, 3) := by decide +kernel
theorem dX4_readPerson_80 : decode cX4_readPerson 80 = .ok (.iconst 1, 1) := by decide +kernel
theorem dX4_readPerson_81 : decode cX4_readPerson 81 = .ok (.iadd, 1) := by decide +kernel
theorem dX4_readPerson_82 : decode cX4_readPerson 82 = .ok (.putfield 78, 3) := by decide +kernel
theorem dX4_readPerson_85 : decode cX4_readPerson 85 = .ok (.iconst 1, 1) := by decide +kernel
theorem dX4_readPerson_86 : decode cX4_readPerson 86 = .ok (.ireturn, 1) := by decide +kernel
theorem dX4_readDolls_0 : decode cX4_readDolls 0 = .ok (.aload_n 1, 1) := by decide +kernel
theorem dX4_readDolls_1 : decode cX4_readDolls 1 = .ok (.getfield 90, 3) := by decide +kernel
theorem dX4_readDolls_4 : decode cX4_readDolls 4 = .ok (.ifCond .ne 13, 3) := by decide +kernel
theorem dX4_readDolls_7 : decode cX4_readDolls 7 = .ok (.aload_n 0, 1) := by decide +kernel
theorem dX4_readDolls_8 : decode cX4_readDolls 8 = .ok (.iconst 0, 1) := by decide +kernel
theorem dX4_readDolls_9 : decode cX4_readDolls 9 = .ok (.bipush 9, 2) := by decide +kernel
theorem dX4_readDolls_11 : decode cX4_readDolls 11 = .ok (.invokevirtual 62, 3) := by decide +kernel
theorem dX4_readDolls_14 : decode cX4_readDolls 14 = .ok (.ifCond .ne 5, 3) := by decide +kernel
theorem dX4_readDolls_17 : decode cX4_readDolls 17 = .ok (.iconst 0, 1) := by decide +kernel
theorem dX4_readDolls_18 : decode cX4_readDolls 18 = .ok (.ireturn, 1) := by decide +kernel
theorem dX4_readDolls_19 : decode cX4_readDolls 19 = .ok (.aload_n 1, 1) := by decide +kernel
theorem dX4_readDolls_20 : decode cX4_readDolls 20 = .ok (.aload_n 0, 1) := by decide +kernel
theorem dX4_readDolls_21 : decode cX4_readDolls 21 = .ok (.getfield 28, 3) := by decide +kernel
theorem dX4_readDolls_24 : decode cX4_readDolls 24 = .ok (.putfield 94, 3) := by decide +kernel
theorem dX4_readDolls_27 : decode cX4_readDolls 27 = .ok (.aload_n 1, 1) := by decide +kernel
theorem dX4_readDolls_28 : decode cX4_readDolls 28 = .ok (.iconst 1, 1) := by decide +kernel
theorem dX4_readDolls_29 : decode cX4_readDolls 29 = .ok (.putfield 90, 3) := by decide +kernel
theorem dX4_readDolls_32 : decode cX4_readDolls 32 = .ok (.iconst 1, 1) := by decide +kernel
theorem dX4_readDolls_33 : decode cX4_readDolls 33 = .ok (.ireturn, 1) := by decide +kernel
theorem dX4_readPair_0 : decode cX4_readPair 0 = .ok (.aload_n 1, 1) := by decide +kernel
theorem dX4_readPair_1 : decode cX4_readPair 1 = .ok (.getfield 97, 3) := by decide +kernel
theorem dX4_readPair_4 : decode cX4_readPair 4 = .ok (.ifCond .ne 13, 3) := by decide +kernel
theorem dX4_readPair_7 : decode cX4_readPair 7 = .ok (.aload_n 0, 1) := by decide +kernel
theorem dX4_readPair_8 : decode cX4_readPair 8 = .ok (.iconst 0, 1) := by decide +kernel
theorem dX4_readPair_9 : decode cX4_readPair 9 = .ok (.bipush 9, 2) := by decide +kernel
theorem dX4_readPair_11 : decode cX4_readPair 11 = .ok (.invokevirtual 62, 3) := by decide +kernel
theorem dX4_readPair_14 : decode cX4_readPair 14 = .ok (.ifCond .ne 5, 3) := by decide +kernel
theorem dX4_readPair_17 : decode cX4_readPair 17 = .ok (.iconst 0, 1) := by decide +kernel
theorem dX4_readPair_18 : decode cX4_readPair 18 = .ok (.ireturn, 1) := by decide +kernel
theorem dX4_readPair_19 : decode cX4_readPair 19 = .ok (.aload_n 1, 1) := by decide +kernel
theorem dX4_readPair_20 : decode cX4_readPair 20 = .ok (.aload_n 0, 1) := by decide +kernel
theorem dX4_readPair_21 : decode cX4_readPair 21 = .ok (.getfield 28, 3) := by decide +kernel
theorem dX4_readPair_24 : decode cX4_readPair 24 = .ok (.putfield 100, 3) := by decide +kernel
theorem dX4_readPair_27 : decode cX4_readPair 27 = .ok (.aload_n 1, 1) := by decide +kernel
theorem dX4_readPair_28 : decode cX4_readPair 28 = .ok (.iconst 1, 1) := by decide +kernel
theorem dX4_readPair_29 : decode cX4_readPair 29 = .ok (.putfield 97, 3) := by decide +kernel
theorem dX4_readPair_32 : decode cX4_readPair 32 = .ok (.iconst 1, 1) := by decide +kernel
theorem dX4_readPair_33 : decode cX4_readPair 33 = .ok (.ireturn, 1) := by decide +kernel
theorem dX4_readNumber_0 : decode cX4_readNumber 0 = .ok (.aload_n 0, 1) := by decide +kernel
theorem dX4_readNumber_1 : decode cX4_readNumber 1 = .ok (.invokevirtual 36, 3) := by decide +kernel
theorem dX4_readNumber_4 : decode cX4_readNumber 4 = .ok (.aload_n 0, 1) := by decide +kernel
theorem dX4_readNumber_5 : decode cX4_readNumber 5 = .ok (.getfield 25, 3) := by decide +kernel
theorem dX4_readNumber_8 : decode cX4_readNumber 8 = .ok (.iconst 2, 1) := by decide +kernel
theorem dX4_readNumber_9 : decode cX4_readNumber 9 = .ok (.if_icmp .ne 23, 3) := by decide +kernel
theorem dX4_readNumber_12 : decode cX4_readNumber 12 = .ok (.aload_n 0, 1) := by decide +kernel
theorem dX4_readNumber_13 : decode cX4_readNumber 13 = .ok (.getfield 28, 3) := by decide +kernel
theorem dX4_readNumber_16 : decode cX4_readNumber 16 = .ok (.iload_n 1, 1) := by decide +kernel
theorem dX4_readNumber_17 : decode cX4_readNumber 17 = .ok (.if_icmp .lt 15, 3) := by decide +kernel
theorem dX4_readNumber_20 : decode cX4_readNumber 20 = .ok (.aload_n 0, 1) := by decide +kernel
theorem dX4_readNumber_21 : decode cX4_readNumber 21 = .ok (.getfield 28, 3) := by decide +kernel
theorem dX4_readNumber_24 : decode cX4_readNumber 24 = .ok (.iload_n 2, 1) := by decide +kernel
theorem dX4_readNumber_25 : decode cX4_readNumber 25 = .ok (.if_icmp .gt 7, 3) := by decide +kernel
theorem dX4_readNumber_28 : decode cX4_readNumber 28 = .ok (.iconst 1, 1) := by decide +kernel
theorem dX4_readNumber_29 : decode cX4_readNumber 29 = .ok (.goto 4, 3) := by decide +kernel
theorem dX4_readNumber_32 : decode cX4_readNumber 32 = .ok (.iconst 0, 1) := by decide +kernel
theorem dX4_readNumber_33 : decode cX4_readNumber 33 = .ok (.ireturn, 1) := by decide +kernel
theorem dX4_readStop_0 : decode cX4_readStop 0 = .ok (.aload_n 0, 1) := by decide +kernel
theorem dX4_readStop_1 : decode cX4_readStop 1 = .ok (.invokevirtual 36, 3) := by decide +kernel
theorem dX4_readStop_4 : decode cX4_readStop 4 = .ok (.aload_n 0, 1) := by decide +kernel
theorem dX4_readStop_5 : decode cX4_readStop 5 = .ok (.getfield 25, 3) := by decide +kernel
theorem dX4_readStop_8 : decode cX4_readStop 8 = .ok (.iconst 3, 1) := by decide +kernel
theorem dX4_readStop_9 : decode cX4_readStop 9 = .ok (.if_icmp .ne 7, 3) := by decide +kernel
theorem dX4_readStop_12 : decode cX4_readStop 12 = .ok (.iconst 1, 1) := by decide +kernel
theorem dX4_readStop_13 : decode cX4_readStop 13 = .ok (.goto 4, 3) := by decide +kernel
theorem dX4_readStop_16 : decode cX4_readStop 16 = .ok (.iconst 0, 1) := by decide +kernel
theorem dX4_readStop_17 : decode cX4_readStop 17 = .ok (.ireturn, 1) := by decide +kernel
theorem dX4_nextToken_0 : decode cX4_nextToken 0 = .ok (.aload_n 0, 1) := by decide +kernel
theorem dX4_nextToken_1 : decode cX4_nextToken 1 = .ok (.getfield 19, 3) := by decide +kernel
theorem dX4_nextToken_4 : decode cX4_nextToken 4 = .ok (.aload_n 0, 1) := by decide +kernel
theorem dX4_nextToken_5 : decode cX4_nextToken 5 = .ok (.getfield 15, 3) := by decide +kernel
theorem dX4_nextToken_8 : decode cX4_nextToken 8 = .ok (.if_icmp .ge 30, 3) := by decide +kernel
theorem dX4_nextToken_11 : decode cX4_nextToken 11 = .ok (.aload_n 0, 1) := by decide +kernel
theorem dX4_nextToken_12 : decode cX4_nextToken 12 = .ok (.getfield 9, 3) := by decide +kernel
theorem dX4_nextToken_15 : decode cX4_nextToken 15 = .ok (.aload_n 0, 1) := by decide +kernel
theorem dX4_nextToken_16 : decode cX4_nextToken 16 = .ok (.getfield 19, 3) := by decide +kernel
theorem dX4_nextToken_19 : decode cX4_nextToken 19 = .ok (.iaload, 1) := by decide +kernel
theorem dX4_nextToken_20 : decode cX4_nextToken 20 = .ok (.bipush 32, 2) := by decide +kernel
theorem dX4_nextToken_22 : decode cX4_nextToken 22 = .ok (.if_icmp .ne 16, 3) := by decide +kernel
theorem dX4_nextToken_25 : decode cX4_nextToken 25 = .ok (.aload_n 0, 1) := by decide +kernel
theorem dX4_nextToken_26 : decode cX4_nextToken 26 = .ok (.dup, 1) := by decide +kernel
theorem dX4_nextToken_27 : decode cX4_nextToken 27 = .ok (.getfield 19, 3) := by decide +kernel
theorem dX4_nextToken_30 : decode cX4_nextToken 30 = .ok (.iconst 1, 1) := by decide +kernel
theorem dX4_nextToken_31 : decode cX4_nextToken 31 = .ok (.iadd, 1) := by decide +kernel
theorem dX4_nextToken_32 : decode cX4_nextToken 32 = .ok (.putfield 19, 3) := by decide +kernel
theorem dX4_nextToken_35 : decode cX4_nextToken 35 = .ok (.goto (-35), 3) := by decide +kernel
theorem dX4_nextToken_38 : decode cX4_nextToken 38 = .ok (.aload_n 0, 1) := by decide +kernel
theorem dX4_nextToken_39 : decode cX4_nextToken 39 = .ok (.aload_n 0, 1) := by decide +kernel
theorem dX4_nextToken_40 : decode cX4_nextToken 40 = .ok (.getfield 19, 3) := by decide +kernel
theorem dX4_nextToken_43 : decode cX4_nextToken 43 = .ok (.putfield 22, 3) := by decide +kernel
theorem dX4_nextToken_46 : decode cX4_nextToken 46 = .ok (.aload_n 0, 1) := by decide +kernel
theorem dX4_nextToken_47 : decode cX4_nextToken 47 = .ok (.iconst (-1), 1) := by decide +kernel
theorem dX4_nextToken_48 : decode cX4_nextToken 48 = .ok (.putfield 28, 3) := by decide +kernel
theorem dX4_nextToken_51 : decode cX4_nextToken 51 = .ok (.aload_n 0, 1) := by decide +kernel
theorem dX4_nextToken_52 : decode cX4_nextToken 52 = .ok (.getfield 19, 3) := by decide +kernel
theorem dX4_nextToken_55 : decode cX4_nextToken 55 = .ok (.aload_n 0, 1) := by decide +kernel
theorem dX4_nextToken_56 : decode cX4_nextToken 56 = .ok (.getfield 15, 3) := by decide +kernel
theorem dX4_nextToken_59 : decode cX4_nextToken 59 = .ok (.if_icmp .lt 11, 3) := by decide +kernel
theorem dX4_nextToken_62 : decode cX4_nextToken 62 = .ok (.aload_n 0, 1) := by decide +kernel
theorem dX4_nextToken_63 : decode cX4_nextToken 63 = .ok (.iconst 0, 1) := by decide +kernel
theorem dX4_nextToken_64 : decode cX4_nextToken 64 = .ok (.putfield 25, 3) := by decide +kernel
theorem dX4_nextToken_67 : decode cX4_nextToken 67 = .ok (.goto 80, 3) := by decide +kernel
theorem dX4_nextToken_70 : decode cX4_nextToken 70 = .ok (.aload_n 0, 1) := by decide +kernel
theorem dX4_nextToken_71 : decode cX4_nextToken 71 = .ok (.getfield 9, 3) := by decide +kernel
theorem dX4_nextToken_74 : decode cX4_nextToken 74 = .ok (.aload_n 0, 1) := by decide +kernel
theorem dX4_nextToken_75 : decode cX4_nextToken 75 = .ok (.getfield 19, 3) := by decide +kernel
theorem dX4_nextToken_78 : decode cX4_nextToken 78 = .ok (.iaload, 1) := by decide +kernel
theorem dX4_nextToken_79 : decode cX4_nextToken 79 = .ok (.invokestatic 103, 3) := by decide +kernel
theorem dX4_nextToken_82 : decode cX4_nextToken 82 = .ok (.ifCond .eq 10, 3) := by decide +kernel
theorem dX4_nextToken_85 : decode cX4_nextToken 85 = .ok (.aload_n 0, 1) := by decide +kernel
theorem dX4_nextToken_86 : decode cX4_nextToken 86 = .ok (.invokevirtual 107, 3) := by decide +kernel
theorem dX4_nextToken_89 : decode cX4_nextToken 89 = .ok (.goto 58, 3) := by decide +kernel
theorem dX4_nextToken_92 : decode cX4_nextToken 92 = .ok (.aload_n 0, 1) := by decide +kernel
theorem dX4_nextToken_93 : decode cX4_nextToken 93 = .ok (.getfield 9, 3) := by decide +kernel
theorem dX4_nextToken_96 : decode cX4_nextToken 96 = .ok (.aload_n 0, 1) := by decide +kernel
theorem dX4_nextToken_97 : decode cX4_nextToken 97 = .ok (.getfield 19, 3) := by decide +kernel
theorem dX4_nextToken_100 : decode cX4_nextToken 100 = .ok (.iaload, 1) := by decide +kernel
theorem dX4_nextToken_101 : decode cX4_nextToken 101 = .ok (.invokestatic 110, 3) := by decide +kernel
theorem dX4_nextToken_104 : decode cX4_nextToken 104 = .ok (.ifCond .eq 10, 3) := by decide +kernel
theorem dX4_nextToken_107 : decode cX4_nextToken 107 = .ok (.aload_n 0, 1) := by decide +kernel
theorem dX4_nextToken_108 : decode cX4_nextToken 108 = .ok (.invokevirtual 113, 3) := by decide +kernel
theorem dX4_nextToken_111 : decode cX4_nextToken 111 = .ok (.goto 36, 3) := by decide +kernel
theorem dX4_nextToken_114 : decode cX4_nextToken 114 = .ok (.aload_n 0, 1) := by decide +kernel
theorem dX4_nextToken_115 : decode cX4_nextToken 115 = .ok (.aload_n 0, 1) := by decide +kernel
theorem dX4_nextToken_116 : decode cX4_nextToken 116 = .ok (.getfield 9, 3) := by decide +kernel
theorem dX4_nextToken_119 : decode cX4_nextToken 119 = .ok (.aload_n 0, 1) := by decide +kernel
theorem dX4_nextToken_120 : decode cX4_nextToken 120 = .ok (.getfield 19, 3) := by decide +kernel
theorem dX4_nextToken_123 : decode cX4_nextToken 123 = .ok (.iaload, 1) := by decide +kernel
theorem dX4_nextToken_124 : decode cX4_nextToken 124 = .ok (.bipush 59, 2) := by decide +kernel
theorem dX4_nextToken_126 : decode cX4_nextToken 126 = .ok (.if_icmp .ne 7, 3) := by decide +kernel
theorem dX4_nextToken_129 : decode cX4_nextToken 129 = .ok (.iconst 3, 1) := by decide +kernel
theorem dX4_nextToken_130 : decode cX4_nextToken 130 = .ok (.goto 4, 3) := by decide +kernel
theorem dX4_nextToken_133 : decode cX4_nextToken 133 = .ok (.iconst 4, 1) := by decide +kernel
theorem dX4_nextToken_134 : decode cX4_nextToken 134 = .ok (.putfield 25, 3) := by decide +kernel
theorem dX4_nextToken_137 : decode cX4_nextToken 137 = .ok (.aload_n 0, 1) := by decide +kernel
theorem dX4_nextToken_138 : decode cX4_nextToken 138 = .ok (.dup, 1) := by decide +kernel
theorem dX4_nextToken_139 : decode cX4_nextToken 139 = .ok (.getfield 19, 3) := by decide +kernel
theorem dX4_nextToken_142 : decode cX4_nextToken 142 = .ok (.iconst 1, 1) := by decide +kernel
theorem dX4_nextToken_143 : decode cX4_nextToken 143 = .ok (.iadd, 1) := by decide +kernel
theorem dX4_nextToken_144 : decode cX4_nextToken 144 = .ok (.putfield 19, 3) := by decide +kernel
theorem dX4_nextToken_147 : decode cX4_nextToken 147 = .ok (.return_, 1) := by decide +kernel
theorem dX4_takeWord_0 : decode cX4_takeWord 0 = .ok (.aload_n 0, 1) := by decide +kernel
theorem dX4_takeWord_1 : decode cX4_takeWord 1 = .ok (.iconst 1, 1) := by decide +kernel
theorem dX4_takeWord_2 : decode cX4_takeWord 2 = .ok (.putfield 25, 3) := by decide +kernel
theorem dX4_takeWord_5 : decode cX4_takeWord 5 = .ok (.aload_n 0, 1) := by decide +kernel
theorem dX4_takeWord_6 : decode cX4_takeWord 6 = .ok (.getfield 19, 3) := by decide +kernel
theorem dX4_takeWord_9 : decode cX4_takeWord 9 = .ok (.aload_n 0, 1) := by decide +kernel
theorem dX4_takeWord_10 : decode cX4_takeWord 10 = .ok (.getfield 15, 3) := by decide +kernel
theorem dX4_takeWord_13 : decode cX4_takeWord 13 = .ok (.if_icmp .ge 31, 3) := by decide +kernel
theorem dX4_takeWord_16 : decode cX4_takeWord 16 = .ok (.aload_n 0, 1) := by decide +kernel
theorem dX4_takeWord_17 : decode cX4_takeWord 17 = .ok (.getfield 9, 3) := by decide +kernel
theorem dX4_takeWord_20 : decode cX4_takeWord 20 = .ok (.aload_n 0, 1) := by decide +kernel
theorem dX4_takeWord_21 : decode cX4_takeWord 21 = .ok (.getfield 19, 3) := by decide +kernel
theorem dX4_takeWord_24 : decode cX4_takeWord 24 = .ok (.iaload, 1) := by decide +kernel
theorem dX4_takeWord_25 : decode cX4_takeWord 25 = .ok (.invokestatic 103, 3) := by decide +kernel
theorem dX4_takeWord_28 : decode cX4_takeWord 28 = .ok (.ifCond .eq 16, 3) := by decide +kernel
theorem dX4_takeWord_31 : decode cX4_takeWord 31 = .ok (.aload_n 0, 1) := by decide +kernel
theorem dX4_takeWord_32 : decode cX4_takeWord 32 = .ok (.dup, 1) := by decide +kernel
theorem dX4_takeWord_33 : decode cX4_takeWord 33 = .ok (.getfield 19, 3) := by decide +kernel
theorem dX4_takeWord_36 : decode cX4_takeWord 36 = .ok (.iconst 1, 1) := by decide +kernel
theorem dX4_takeWord_37 : decode cX4_takeWord 37 = .ok (.iadd, 1) := by decide +kernel
theorem dX4_takeWord_38 : decode cX4_takeWord 38 = .ok (.putfield 19, 3) := by decide +kernel
theorem dX4_takeWord_41 : decode cX4_takeWord 41 = .ok (.goto (-36), 3) := by decide +kernel
theorem dX4_takeWord_44 : decode cX4_takeWord 44 = .ok (.aload_n 0, 1) := by decide +kernel
theorem dX4_takeWord_45 : decode cX4_takeWord 45 = .ok (.getfield 19, 3) := by decide +kernel
theorem dX4_takeWord_48 : decode cX4_takeWord 48 = .ok (.aload_n 0, 1) := by decide +kernel
theorem dX4_takeWord_49 : decode cX4_takeWord 49 = .ok (.getfield 22, 3) := by decide +kernel
theorem dX4_takeWord_52 : decode cX4_takeWord 52 = .ok (.iconst 1, 1) := by decide +kernel
theorem dX4_takeWord_53 : decode cX4_takeWord 53 = .ok (.iadd, 1) := by decide +kernel
theorem dX4_takeWord_54 : decode cX4_takeWord 54 = .ok (.if_icmp .ne 16, 3) := by decide +kernel
theorem dX4_takeWord_57 : decode cX4_takeWord 57 = .ok (.aload_n 0, 1) := by decide +kernel
theorem dX4_takeWord_58 : decode cX4_takeWord 58 = .ok (.aload_n 0, 1) := by decide +kernel
theorem dX4_takeWord_59 : decode cX4_takeWord 59 = .ok (.getfield 9, 3) := by decide +kernel
theorem dX4_takeWord_62 : decode cX4_takeWord 62 = .ok (.aload_n 0, 1) := by decide +kernel
theorem dX4_takeWord_63 : decode cX4_takeWord 63 = .ok (.getfield 22, 3) := by decide +kernel
theorem dX4_takeWord_66 : decode cX4_takeWord 66 = .ok (.iaload, 1) := by decide +kernel
theorem dX4_takeWord_67 : decode cX4_takeWord 67 = .ok (.putfield 28, 3) := by decide +kernel
theorem dX4_takeWord_70 : decode cX4_takeWord 70 = .ok (.return_, 1) := by decide +kernel
theorem dX4_takeNumber_0 : decode cX4_takeNumber 0 = .ok (.aload_n 0, 1) := by decide +kernel
theorem dX4_takeNumber_1 : decode cX4_takeNumber 1 = .ok (.iconst 2, 1) := by decide +kernel
theorem dX4_takeNumber_2 : decode cX4_takeNumber 2 = .ok (.putfield 25, 3) := by decide +kernel
theorem dX4_takeNumber_5 : decode cX4_takeNumber 5 = .ok (.iconst 0, 1) := by decide +kernel
theorem dX4_takeNumber_6 : decode cX4_takeNumber 6 = .ok (.istore_n 1, 1) := by decide +kernel
theorem dX4_takeNumber_7 : decode cX4_takeNumber 7 = .ok (.aload_n 0, 1) := by decide +kernel
theorem dX4_takeNumber_8 : decode cX4_takeNumber 8 = .ok (.getfield 19, 3) := by decide +kernel
theorem dX4_takeNumber_11 : decode cX4_takeNumber 11 = .ok (.aload_n 0, 1) := by decide +kernel
theorem dX4_takeNumber_12 : decode cX4_takeNumber 12 = .ok (.getfield 15, 3) := by decide +kernel
theorem dX4_takeNumber_15 : decode cX4_takeNumber 15 = .ok (.if_icmp .ge 54, 3) := by decide +kernel
theorem dX4_takeNumber_18 : decode cX4_takeNumber 18 = .ok (.aload_n 0, 1) := by decide +kernel
theorem dX4_takeNumber_19 : decode cX4_takeNumber 19 = .ok (.getfield 9, 3) := by decide +kernel
theorem dX4_takeNumber_22 : decode cX4_takeNumber 22 = .ok (.aload_n 0, 1) := by decide +kernel
theorem dX4_takeNumber_23 : decode cX4_takeNumber 23 = .ok (.getfield 19, 3) := by decide +kernel
theorem dX4_takeNumber_26 : decode cX4_takeNumber 26 = .ok (.iaload, 1) := by decide +kernel
theorem dX4_takeNumber_27 : decode cX4_takeNumber 27 = .ok (.invokestatic 110, 3) := by decide +kernel
theorem dX4_takeNumber_30 : decode cX4_takeNumber 30 = .ok (.ifCond .eq 39, 3) := by decide +kernel
theorem dX4_takeNumber_33 : decode cX4_takeNumber 33 = .ok (.bipush 100, 2) := by decide +kernel
theorem dX4_takeNumber_35 : decode cX4_takeNumber 35 = .ok (.iload_n 1, 1) := by decide +kernel
theorem dX4_takeNumber_36 : decode cX4_takeNumber 36 = .ok (.bipush 10, 2) := by decide +kernel
theorem dX4_takeNumber_38 : decode cX4_takeNumber 38 = .ok (.imul, 1) := by decide +kernel
theorem dX4_takeNumber_39 : decode cX4_takeNumber 39 = .ok (.aload_n 0, 1) := by decide +kernel
theorem dX4_takeNumber_40 : decode cX4_takeNumber 40 = .ok (.getfield 9, 3) := by decide +kernel
theorem dX4_takeNumber_43 : decode cX4_takeNumber 43 = .ok (.aload_n 0, 1) := by decide +kernel
theorem dX4_takeNumber_44 : decode cX4_takeNumber 44 = .ok (.getfield 19, 3) := by decide +kernel
theorem dX4_takeNumber_47 : decode cX4_takeNumber 47 = .ok (.iaload, 1) := by decide +kernel
theorem dX4_takeNumber_48 : decode cX4_takeNumber 48 = .ok (.iadd, 1) := by decide +kernel
theorem dX4_takeNumber_49 : decode cX4_takeNumber 49 = .ok (.bipush 48, 2) := by decide +kernel
theorem dX4_takeNumber_51 : decode cX4_takeNumber 51 = .ok (.isub, 1) := by decide +kernel
theorem dX4_takeNumber_52 : decode cX4_takeNumber 52 = .ok (.invokestatic 116, 3) := by decide +kernel
theorem dX4_takeNumber_55 : decode cX4_takeNumber 55 = .ok (.istore_n 1, 1) := by decide +kernel
theorem dX4_takeNumber_56 : decode cX4_takeNumber 56 = .ok (.aload_n 0, 1) := by decide +kernel
theorem dX4_takeNumber_57 : decode cX4_takeNumber 57 = .ok (.dup, 1) := by decide +kernel
theorem dX4_takeNumber_58 : decode cX4_takeNumber 58 = .ok (.getfield 19, 3) := by decide +kernel
theorem dX4_takeNumber_61 : decode cX4_takeNumber 61 = .ok (.iconst 1, 1) := by decide +kernel
theorem dX4_takeNumber_62 : decode cX4_takeNumber 62 = .ok (.iadd, 1) := by decide +kernel
theorem dX4_takeNumber_63 : decode cX4_takeNumber 63 = .ok (.putfield 19, 3) := by decide +kernel
theorem dX4_takeNumber_66 : decode cX4_takeNumber 66 = .ok (.goto (-59), 3) := by decide +kernel
theorem dX4_takeNumber_69 : decode cX4_takeNumber 69 = .ok (.aload_n 0, 1) := by decide +kernel
theorem dX4_takeNumber_70 : decode cX4_takeNumber 70 = .ok (.getfield 9, 3) := by decide +kernel
theorem dX4_takeNumber_73 : decode cX4_takeNumber 73 = .ok (.aload_n 0, 1) := by decide +kernel
theorem dX4_takeNumber_74 : decode cX4_takeNumber 74 = .ok (.getfield 22, 3) := by decide +kernel
theorem dX4_takeNumber_77 : decode cX4_takeNumber 77 = .ok (.iaload, 1) := by decide +kernel
theorem dX4_takeNumber_78 : decode cX4_takeNumber 78 = .ok (.bipush 48, 2) := by decide +kernel
theorem dX4_takeNumber_80 : decode cX4_takeNumber 80 = .ok (.if_icmp .ne 20, 3) := by decide +kernel
theorem dX4_takeNumber_83 : decode cX4_takeNumber 83 = .ok (.aload_n 0, 1) := by decide +kernel
theorem dX4_takeNumber_84 : decode cX4_takeNumber 84 = .ok (.getfield 19, 3) := by decide +kernel
theorem dX4_takeNumber_87 : decode cX4_takeNumber 87 = .ok (.aload_n 0, 1) := by decide +kernel
theorem dX4_takeNumber_88 : decode cX4_takeNumber 88 = .ok (.getfield 22, 3) := by decide +kernel
theorem dX4_takeNumber_91 : decode cX4_takeNumber 91 = .ok (.iconst 1, 1) := by decide +kernel
theorem dX4_takeNumber_92 : decode cX4_takeNumber 92 = .ok (.iadd, 1) := by decide +kernel
theorem dX4_takeNumber_93 : decode cX4_takeNumber 93 = .ok (.if_icmp .le 7, 3) := by decide +kernel
theorem dX4_takeNumber_96 : decode cX4_takeNumber 96 = .ok (.iconst 1, 1) := by decide +kernel
theorem dX4_takeNumber_97 : decode cX4_takeNumber 97 = .ok (.goto 4, 3) := by decide +kernel
theorem dX4_takeNumber_100 : decode cX4_takeNumber 100 = .ok (.iconst 0, 1) := by decide +kernel
theorem dX4_takeNumber_101 : decode cX4_takeNumber 101 = .ok (.istore_n 2, 1) := by decide +kernel
theorem dX4_takeNumber_102 : decode cX4_takeNumber 102 = .ok (.aload_n 0, 1) := by decide +kernel
theorem dX4_takeNumber_103 : decode cX4_takeNumber 103 = .ok (.iload_n 2, 1) := by decide +kernel
theorem dX4_takeNumber_104 : decode cX4_takeNumber 104 = .ok (.ifCond .ne 9, 3) := by decide +kernel
theorem dX4_takeNumber_107 : decode cX4_takeNumber 107 = .ok (.iload_n 1, 1) := by decide +kernel
theorem dX4_takeNumber_108 : decode cX4_takeNumber 108 = .ok (.bipush 99, 2) := by decide +kernel
theorem dX4_takeNumber_110 : decode cX4_takeNumber 110 = .ok (.if_icmp .le 7, 3) := by decide +kernel
theorem dX4_takeNumber_113 : decode cX4_takeNumber 113 = .ok (.iconst (-1), 1) := by decide +kernel
theorem dX4_takeNumber_114 : decode cX4_takeNumber 114 = .ok (.goto 4, 3) := by decide +kernel
theorem dX4_takeNumber_117 : decode cX4_takeNumber 117 = .ok (.iload_n 1, 1) := by decide +kernel
theorem dX4_takeNumber_118 : decode cX4_takeNumber 118 = .ok (.putfield 28, 3) := by decide +kernel
theorem dX4_takeNumber_121 : decode cX4_takeNumber 121 = .ok (.return_, 1) := by decide +kernel
theorem dX4_isLetter_0 : decode cX4_isLetter 0 = .ok (.iload_n 0, 1) := by decide +kernel
theorem dX4_isLetter_1 : decode cX4_isLetter 1 = .ok (.bipush 97, 2) := by decide +kernel
theorem dX4_isLetter_3 : decode cX4_isLetter 3 = .ok (.if_icmp .lt 13, 3) := by decide +kernel
theorem dX4_isLetter_6 : decode cX4_isLetter 6 = .ok (.iload_n 0, 1) := by decide +kernel
theorem dX4_isLetter_7 : decode cX4_isLetter 7 = .ok (.bipush 122, 2) := by decide +kernel
theorem dX4_isLetter_9 : decode cX4_isLetter 9 = .ok (.if_icmp .gt 7, 3) := by decide +kernel
theorem dX4_isLetter_12 : decode cX4_isLetter 12 = .ok (.iconst 1, 1) := by decide +kernel
theorem dX4_isLetter_13 : decode cX4_isLetter 13 = .ok (.goto 4, 3) := by decide +kernel
theorem dX4_isLetter_16 : decode cX4_isLetter 16 = .ok (.iconst 0, 1) := by decide +kernel
theorem dX4_isLetter_17 : decode cX4_isLetter 17 = .ok (.ireturn, 1) := by decide +kernel
theorem dX4_isDigit_0 : decode cX4_isDigit 0 = .ok (.iload_n 0, 1) := by decide +kernel
theorem dX4_isDigit_1 : decode cX4_isDigit 1 = .ok (.bipush 48, 2) := by decide +kernel
theorem dX4_isDigit_3 : decode cX4_isDigit 3 = .ok (.if_icmp .lt 13, 3) := by decide +kernel
theorem dX4_isDigit_6 : decode cX4_isDigit 6 = .ok (.iload_n 0, 1) := by decide +kernel
theorem dX4_isDigit_7 : decode cX4_isDigit 7 = .ok (.bipush 57, 2) := by decide +kernel
theorem dX4_isDigit_9 : decode cX4_isDigit 9 = .ok (.if_icmp .gt 7, 3) := by decide +kernel
theorem dX4_isDigit_12 : decode cX4_isDigit 12 = .ok (.iconst 1, 1) := by decide +kernel
theorem dX4_isDigit_13 : decode cX4_isDigit 13 = .ok (.goto 4, 3) := by decide +kernel
theorem dX4_isDigit_16 : decode cX4_isDigit 16 = .ok (.iconst 0, 1) := by decide +kernel
theorem dX4_isDigit_17 : decode cX4_isDigit 17 = .ok (.ireturn, 1) := by decide +kernel
theorem dX5_init_0 : decode cX5_init 0 = .ok (.aload_n 0, 1) := by decide +kernel
theorem dX5_init_1 : decode cX5_init 1 = .ok (.invokespecial 3, 3) := by decide +kernel
theorem dX5_init_4 : decode cX5_init 4 = .ok (.aload_n 0, 1) := by decide +kernel
theorem dX5_init_5 : decode cX5_init 5 = .ok (.bipush 49, 2) := by decide +kernel
theorem dX5_init_7 : decode cX5_init 7 = .ok (.newarray .int, 2) := by decide +kernel
theorem dX5_init_9 : decode cX5_init 9 = .ok (.putfield 9, 3) := by decide +kernel
theorem dX5_init_12 : decode cX5_init 12 = .ok (.aload_n 0, 1) := by decide +kernel
theorem dX5_init_13 : decode cX5_init 13 = .ok (.bipush 7, 2) := by decide +kernel
theorem dX5_init_15 : decode cX5_init 15 = .ok (.newarray .int, 2) := by decide +kernel
theorem dX5_init_17 : decode cX5_init 17 = .ok (.putfield 15, 3) := by decide +kernel
theorem dX5_init_20 : decode cX5_init 20 = .ok (.aload_n 0, 1) := by decide +kernel
theorem dX5_init_21 : decode cX5_init 21 = .ok (.iconst 0, 1) := by decide +kernel
theorem dX5_init_22 : decode cX5_init 22 = .ok (.putfield 18, 3) := by decide +kernel
theorem dX5_init_25 : decode cX5_init 25 = .ok (.aload_n 0, 1) := by decide +kernel
theorem dX5_init_26 : decode cX5_init 26 = .ok (.iconst 0, 1) := by decide +kernel
theorem dX5_init_27 : decode cX5_init 27 = .ok (.putfield 22, 3) := by decide +kernel
theorem dX5_init_30 : decode cX5_init 30 = .ok (.aload_n 0, 1) := by decide +kernel
theorem dX5_init_31 : decode cX5_init 31 = .ok (.iconst 0, 1) := by decide +kernel
theorem dX5_init_32 : decode cX5_init 32 = .ok (.putfield 25, 3) := by decide +kernel
theorem dX5_init_35 : decode cX5_init 35 = .ok (.return_, 1) := by decide +kernel
theorem dX5_strikeAll_0 : decode cX5_strikeAll 0 = .ok (.aload_n 1, 1) := by decide +kernel
theorem dX5_strikeAll_1 : decode cX5_strikeAll 1 = .ok (.iconst 0, 1) := by decide +kernel
theorem dX5_strikeAll_2 : decode cX5_strikeAll 2 = .ok (.aload_n 0, 1) := by decide +kernel
theorem dX5_strikeAll_3 : decode cX5_strikeAll 3 = .ok (.getfield 9, 3) := by decide +kernel
theorem dX5_strikeAll_6 : decode cX5_strikeAll 6 = .ok (.iconst 0, 1) := by decide +kernel
theorem dX5_strikeAll_7 : decode cX5_strikeAll 7 = .ok (.aload_n 0, 1) := by decide +kernel
theorem dX5_strikeAll_8 : decode cX5_strikeAll 8 = .ok (.getfield 9, 3) := by decide +kernel
theorem dX5_strikeAll_11 : decode cX5_strikeAll 11 = .ok (.arraylength, 1) := by decide +kernel
theorem dX5_strikeAll_12 : decode cX5_strikeAll 12 = .ok (.invokestatic 28, 3) := by decide +kernel
theorem dX5_strikeAll_15 : decode cX5_strikeAll 15 = .ok (.aload_n 0, 1) := by decide +kernel
theorem dX5_strikeAll_16 : decode cX5_strikeAll 16 = .ok (.iload_n 2, 1) := by decide +kernel
theorem dX5_strikeAll_17 : decode cX5_strikeAll 17 = .ok (.putfield 22, 3) := by decide +kernel
theorem dX5_strikeAll_20 : decode cX5_strikeAll 20 = .ok (.aload_n 0, 1) := by decide +kernel
theorem dX5_strikeAll_21 : decode cX5_strikeAll 21 = .ok (.iconst 0, 1) := by decide +kernel
theorem dX5_strikeAll_22 : decode cX5_strikeAll 22 = .ok (.putfield 25, 3) := by decide +kernel
theorem dX5_strikeAll_25 : decode cX5_strikeAll 25 = .ok (.iconst 2, 1) := by decide +kernel
theorem dX5_strikeAll_26 : decode cX5_strikeAll 26 = .ok (.istore_n 3, 1) := by decide +kernel
theorem dX5_strikeAll_27 : decode cX5_strikeAll 27 = .ok (.iload_n 3, 1) := by decide +kernel
theorem dX5_strikeAll_28 : decode cX5_strikeAll 28 = .ok (.iload_n 2, 1) := by decide +kernel
theorem dX5_strikeAll_29 : decode cX5_strikeAll 29 = .ok (.if_icmp .gt 46, 3) := by decide +kernel
theorem dX5_strikeAll_32 : decode cX5_strikeAll 32 = .ok (.aload_n 0, 1) := by decide +kernel
theorem dX5_strikeAll_33 : decode cX5_strikeAll 33 = .ok (.iload_n 3, 1) := by decide +kernel
theorem dX5_strikeAll_34 : decode cX5_strikeAll 34 = .ok (.putfield 18, 3) := by decide +kernel
theorem dX5_strikeAll_37 : decode cX5_strikeAll 37 = .ok (.iconst 0, 1) := by decide +kernel
theorem dX5_strikeAll_38 : decode cX5_strikeAll 38 = .ok (.istore 4, 2) := by decide +kernel
theorem dX5_strikeAll_40 : decode cX5_strikeAll 40 = .ok (.iload 4, 2) := by decide +kernel
theorem dX5_strikeAll_42 : decode cX5_strikeAll 42 = .ok (.iload_n 2, 1) := by decide +kernel
theorem dX5_strikeAll_43 : decode cX5_strikeAll 43 = .ok (.if_icmp .ge 26, 3) := by decide +kernel
theorem dX5_strikeAll_46 : decode cX5_strikeAll 46 = .ok (.aload_n 0, 1) := by decide +kernel
theorem dX5_strikeAll_47 : decode cX5_strikeAll 47 = .ok (.getfield 15, 3) := by decide +kernel
theorem dX5_strikeAll_50 : decode cX5_strikeAll 50 = .ok (.iconst 0, 1) := by decide +kernel
theorem dX5_strikeAll_51 : decode cX5_strikeAll 51 = .ok (.iload 4, 2) := by decide +kernel
theorem dX5_strikeAll_53 : decode cX5_strikeAll 53 = .ok (.iastore, 1) := by decide +kernel
theorem dX5_strikeAll_54 : decode cX5_strikeAll 54 = .ok (.aload_n 0, 1) := by decide +kernel
theorem dX5_strikeAll_55 : decode cX5_strikeAll 55 = .ok (.iconst 1, 1) := by decide +kernel
theorem dX5_strikeAll_56 : decode cX5_strikeAll 56 = .ok (.iconst 1, 1) := by decide +kernel
theorem dX5_strikeAll_57 : decode cX5_strikeAll 57 = .ok (.iload 4, 2) := by decide +kernel
theorem dX5_strikeAll_59 : decode cX5_strikeAll 59 = .ok (.ishl, 1) := by decide +kernel
theorem dX5_strikeAll_60 : decode cX5_strikeAll 60 = .ok (.invokestatic 34, 3) := by decide +kernel
theorem dX5_strikeAll_63 : decode cX5_strikeAll 63 = .ok (.iinc 4 1, 3) := by decide +kernel
theorem dX5_strikeAll_66 : decode cX5_strikeAll 66 = .ok (.goto (-26), 3) := by decide +kernel
theorem dX5_strikeAll_69 : decode cX5_strikeAll 69 = .ok (.iinc 3 1, 3) := by decide +kernel
theorem dX5_strikeAll_72 : decode cX5_strikeAll 72 = .ok (.goto (-45), 3) := by decide +kernel
theorem dX5_strikeAll_75 : decode cX5_strikeAll 75 = .ok (.aload_n 0, 1) := by decide +kernel
theorem dX5_strikeAll_76 : decode cX5_strikeAll 76 = .ok (.getfield 25, 3) := by decide +kernel
theorem dX5_strikeAll_79 : decode cX5_strikeAll 79 = .ok (.ireturn, 1) := by decide +kernel
theorem dX5_goOn_0 : decode cX5_goOn 0 = .ok (.iload_n 1, 1) := by decide +kernel
theorem dX5_goOn_1 : decode cX5_goOn 1 = .ok (.aload_n 0, 1) := by decide +kernel
theorem dX5_goOn_2 : decode cX5_goOn 2 = .ok (.getfield 18, 3) := by decide +kernel
theorem dX5_goOn_5 : decode cX5_goOn 5 = .ok (.if_icmp .lt 8, 3) := by decide +kernel
theorem dX5_goOn_8 : decode cX5_goOn 8 = .ok (.aload_n 0, 1) := by decide +kernel
theorem dX5_goOn_9 : decode cX5_goOn 9 = .ok (.invokevirtual 38, 3) := by decide +kernel
theorem dX5_goOn_12 : decode cX5_goOn 12 = .ok (.return_, 1) := by decide +kernel
theorem dX5_goOn_13 : decode cX5_goOn 13 = .ok (.aload_n 0, 1) := by decide +kernel
theorem dX5_goOn_14 : decode cX5_goOn 14 = .ok (.getfield 15, 3) := by decide +kernel
theorem dX5_goOn_17 : decode cX5_goOn 17 = .ok (.iload_n 1, 1) := by decide +kernel
theorem dX5_goOn_18 : decode cX5_goOn 18 = .ok (.iconst 1, 1) := by decide +kernel
theorem dX5_goOn_19 : decode cX5_goOn 19 = .ok (.isub, 1) := by decide +kernel
theorem dX5_goOn_20 : decode cX5_goOn 20 = .ok (.iaload, 1) := by decide +kernel
theorem dX5_goOn_21 : decode cX5_goOn 21 = .ok (.istore_n 3, 1) := by decide +kernel
theorem dX5_goOn_22 : decode cX5_goOn 22 = .ok (.aload_n 0, 1) := by decide +kernel
theorem dX5_goOn_23 : decode cX5_goOn 23 = .ok (.getfield 15, 3) := by decide +kernel
theorem dX5_goOn_26 : decode cX5_goOn 26 = .ok (.iconst 0, 1) := by decide +kernel
theorem dX5_goOn_27 : decode cX5_goOn 27 = .ok (.iaload, 1) := by decide +kernel
theorem dX5_goOn_28 : decode cX5_goOn 28 = .ok (.iconst 1, 1) := by decide +kernel
theorem dX5_goOn_29 : decode cX5_goOn 29 = .ok (.iadd, 1) := by decide +kernel
theorem dX5_goOn_30 : decode cX5_goOn 30 = .ok (.istore 4, 2) := by decide +kernel
theorem dX5_goOn_32 : decode cX5_goOn 32 = .ok (.iload 4, 2) := by decide +kernel
theorem dX5_goOn_34 : decode cX5_goOn 34 = .ok (.aload_n 0, 1) := by decide +kernel
theorem dX5_goOn_35 : decode cX5_goOn 35 = .ok (.getfield 22, 3) := by decide +kernel
theorem dX5_goOn_38 : decode cX5_goOn 38 = .ok (.if_icmp .ge 65, 3) := by decide +kernel
theorem dX5_goOn_41 : decode cX5_goOn 41 = .ok (.iload_n 2, 1) := by decide +kernel
theorem dX5_goOn_42 : decode cX5_goOn 42 = .ok (.iconst 1, 1) := by decide +kernel
theorem dX5_goOn_43 : decode cX5_goOn 43 = .ok (.iload 4, 2) := by decide +kernel
theorem dX5_goOn_45 : decode cX5_goOn 45 = .ok (.ishl, 1) := by decide +kernel
theorem dX5_goOn_46 : decode cX5_goOn 46 = .ok (.iand, 1) := by decide +kernel
theorem dX5_goOn_47 : decode cX5_goOn 47 = .ok (.ifCond .ne 7, 3) := by decide +kernel
theorem dX5_goOn_50 : decode cX5_goOn 50 = .ok (.iconst 1, 1) := by decide +kernel
theorem dX5_goOn_51 : decode cX5_goOn 51 = .ok (.goto 4, 3) := by decide +kernel
theorem dX5_goOn_54 : decode cX5_goOn 54 = .ok (.iconst 0, 1) := by decide +kernel
theorem dX5_goOn_55 : decode cX5_goOn 55 = .ok (.istore 5, 2) := by decide +kernel
theorem dX5_goOn_57 : decode cX5_goOn 57 = .ok (.iload 5, 2) := by decide +kernel
theorem dX5_goOn_59 : decode cX5_goOn 59 = .ok (.ifCond .eq 38, 3) := by decide +kernel
theorem dX5_goOn_62 : decode cX5_goOn 62 = .ok (.aload_n 0, 1) := by decide +kernel
theorem dX5_goOn_63 : decode cX5_goOn 63 = .ok (.getfield 9, 3) := by decide +kernel
theorem dX5_goOn_66 : decode cX5_goOn 66 = .ok (.iload_n 3, 1) := by decide +kernel
theorem dX5_goOn_67 : decode cX5_goOn 67 = .ok (.iload 4, 2) := by decide +kernel
theorem dX5_goOn_69 : decode cX5_goOn 69 = .ok (.invokestatic 41, 3) := by decide +kernel
theorem dX5_goOn_72 : decode cX5_goOn 72 = .ok (.iaload, 1) := by decide +kernel
theorem dX5_goOn_73 : decode cX5_goOn 73 = .ok (.ifCond .le 24, 3) := by decide +kernel
theorem dX5_goOn_76 : decode cX5_goOn 76 = .ok (.aload_n 0, 1) := by decide +kernel
theorem dX5_goOn_77 : decode cX5_goOn 77 = .ok (.getfield 15, 3) := by decide +kernel
theorem dX5_goOn_80 : decode cX5_goOn 80 = .ok (.iload_n 1, 1) := by decide +kernel
theorem dX5_goOn_81 : decode cX5_goOn 81 = .ok (.iload 4, 2) := by decide +kernel
theorem dX5_goOn_83 : decode cX5_goOn 83 = .ok (.iastore, 1) := by decide +kernel
theorem dX5_goOn_84 : decode cX5_goOn 84 = .ok (.aload_n 0, 1) := by decide +kernel
theorem dX5_goOn_85 : decode cX5_goOn 85 = .ok (.iload_n 1, 1) := by decide +kernel
theorem dX5_goOn_86 : decode cX5_goOn 86 = .ok (.iconst 1, 1) := by decide +kernel
theorem dX5_goOn_87 : decode cX5_goOn 87 = .ok (.iadd, 1) := by decide +kernel
theorem dX5_goOn_88 : decode cX5_goOn 88 = .ok (.iload_n 2, 1) := by decide +kernel
theorem dX5_goOn_89 : decode cX5_goOn 89 = .ok (.iconst 1, 1) := by decide +kernel
theorem dX5_goOn_90 : decode cX5_goOn 90 = .ok (.iload 4, 2) := by decide +kernel
theorem dX5_goOn_92 : decode cX5_goOn 92 = .ok (.ishl, 1) := by decide +kernel
theorem dX5_goOn_93 : decode cX5_goOn 93 = .ok (.ior, 1) := by decide +kernel
theorem dX5_goOn_94 : decode cX5_goOn 94 = .ok (.invokestatic 34, 3) := by decide +kernel
theorem dX5_goOn_97 : decode cX5_goOn 97 = .ok (.iinc 4 1, 3) := by decide +kernel
theorem dX5_goOn_100 : decode cX5_goOn 100 = .ok (.goto (-68), 3) := by decide +kernel
theorem dX5_goOn_103 : decode cX5_goOn 103 = .ok (.return_, 1) := by decide +kernel
theorem dX5_strikeRow_0 : decode cX5_strikeRow 0 = .ok (.ldc 45, 2) := by decide +kernel
theorem dX5_strikeRow_2 : decode cX5_strikeRow 2 = .ok (.istore_n 1, 1) := by decide +kernel
theorem dX5_strikeRow_3 : decode cX5_strikeRow 3 = .ok (.iconst 0, 1) := by decide +kernel
theorem dX5_strikeRow_4 : decode cX5_strikeRow 4 = .ok (.istore_n 2, 1) := by decide +kernel
theorem dX5_strikeRow_5 : decode cX5_strikeRow 5 = .ok (.iload_n 2, 1) := by decide +kernel
theorem dX5_strikeRow_6 : decode cX5_strikeRow 6 = .ok (.aload_n 0, 1) := by decide +kernel
theorem dX5_strikeRow_7 : decode cX5_strikeRow 7 = .ok (.getfield 18, 3) := by decide +kernel
theorem dX5_strikeRow_10 : decode cX5_strikeRow 10 = .ok (.if_icmp .ge 24, 3) := by decide +kernel
theorem dX5_strikeRow_13 : decode cX5_strikeRow 13 = .ok (.iload_n 1, 1) := by decide +kernel
theorem dX5_strikeRow_14 : decode cX5_strikeRow 14 = .ok (.aload_n 0, 1) := by decide +kernel
theorem dX5_strikeRow_15 : decode cX5_strikeRow 15 = .ok (.getfield 9, 3) := by decide +kernel
theorem dX5_strikeRow_18 : decode cX5_strikeRow 18 = .ok (.aload_n 0, 1) := by decide +kernel
theorem dX5_strikeRow_19 : decode cX5_strikeRow 19 = .ok (.iload_n 2, 1) := by decide +kernel
theorem dX5_strikeRow_20 : decode cX5_strikeRow 20 = .ok (.invokevirtual 46, 3) := by decide +kernel
theorem dX5_strikeRow_23 : decode cX5_strikeRow 23 = .ok (.iaload, 1) := by decide +kernel
theorem dX5_strikeRow_24 : decode cX5_strikeRow 24 = .ok (.invokestatic 50, 3) := by decide +kernel
theorem dX5_strikeRow_27 : decode cX5_strikeRow 27 = .ok (.istore_n 1, 1) := by decide +kernel
theorem dX5_strikeRow_28 : decode cX5_strikeRow 28 = .ok (.iinc 2 1, 3) := by decide +kernel
theorem dX5_strikeRow_31 : decode cX5_strikeRow 31 = .ok (.goto (-26), 3) := by decide +kernel
theorem dX5_strikeRow_34 : decode cX5_strikeRow 34 = .ok (.iconst 0, 1) := by decide +kernel
theorem dX5_strikeRow_35 : decode cX5_strikeRow 35 = .ok (.istore_n 2, 1) := by decide +kernel
theorem dX5_strikeRow_36 : decode cX5_strikeRow 36 = .ok (.iload_n 2, 1) := by decide +kernel
theorem dX5_strikeRow_37 : decode cX5_strikeRow 37 = .ok (.aload_n 0, 1) := by decide +kernel
theorem dX5_strikeRow_38 : decode cX5_strikeRow 38 = .ok (.getfield 18, 3) := by decide +kernel
theorem dX5_strikeRow_41 : decode cX5_strikeRow 41 = .ok (.if_icmp .ge 23, 3) := by decide +kernel
theorem dX5_strikeRow_44 : decode cX5_strikeRow 44 = .ok (.aload_n 0, 1) := by decide +kernel
theorem dX5_strikeRow_45 : decode cX5_strikeRow 45 = .ok (.getfield 9, 3) := by decide +kernel
theorem dX5_strikeRow_48 : decode cX5_strikeRow 48 = .ok (.aload_n 0, 1) := by decide +kernel
theorem dX5_strikeRow_49 : decode cX5_strikeRow 49 = .ok (.iload_n 2, 1) := by decide +kernel
theorem dX5_strikeRow_50 : decode cX5_strikeRow 50 = .ok (.invokevirtual 46, 3) := by decide +kernel
theorem dX5_strikeRow_53 : decode cX5_strikeRow 53 = .ok (.dup2, 1) := by decide +kernel
theorem dX5_strikeRow_54 : decode cX5_strikeRow 54 = .ok (.iaload, 1) := by decide +kernel
theorem dX5_strikeRow_55 : decode cX5_strikeRow 55 = .ok (.iload_n 1, 1) := by decide +kernel
theorem dX5_strikeRow_56 : decode cX5_strikeRow 56 = .ok (.isub, 1) := by decide +kernel
theorem dX5_strikeRow_57 : decode cX5_strikeRow 57 = .ok (.iastore, 1) := by decide +kernel
theorem dX5_strikeRow_58 : decode cX5_strikeRow 58 = .ok (.iinc 2 1, 3) := by decide +kernel
theorem dX5_strikeRow_61 : decode cX5_strikeRow 61 = .ok (.goto (-25), 3) := by decide +kernel
theorem dX5_strikeRow_64 : decode cX5_strikeRow 64 = .ok (.aload_n 0, 1) := by decide +kernel
theorem dX5_strikeRow_65 : decode cX5_strikeRow 65 = .ok (.dup, 1) := by decide +kernel
theorem dX5_strikeRow_66 : decode cX5_strikeRow 66 = .ok (.getfield 25, 3) := by decide +kernel
theorem dX5_strikeRow_69 : decode cX5_strikeRow 69 = .ok (.iload_n 1, 1) := by decide +kernel
theorem dX5_strikeRow_70 : decode cX5_strikeRow 70 = .ok (.aload_n 0, 1) := by decide +kernel
theorem dX5_strikeRow_71 : decode cX5_strikeRow 71 = .ok (.getfield 18, 3) := by decide +kernel
theorem dX5_strikeRow_74 : decode cX5_strikeRow 74 = .ok (.imul, 1) := by decide +kernel
theorem dX5_strikeRow_75 : decode cX5_strikeRow 75 = .ok (.iadd, 1) := by decide +kernel
theorem dX5_strikeRow_76 : decode cX5_strikeRow 76 = .ok (.putfield 25, 3) := by decide +kernel
theorem dX5_strikeRow_79 : decode cX5_strikeRow 79 = .ok (.return_, 1) := by decide +kernel
theorem dX5_linkAt_0 : decode cX5_linkAt 0 = .ok (.aload_n 0, 1) := by decide +kernel
theorem dX5_linkAt_1 : decode cX5_linkAt 1 = .ok (.getfield 15, 3) := by decide +kernel
theorem dX5_linkAt_4 : decode cX5_linkAt 4 = .ok (.iload_n 1, 1) := by decide +kernel
theorem dX5_linkAt_5 : decode cX5_linkAt 5 = .ok (.iaload, 1) := by decide +kernel
theorem dX5_linkAt_6 : decode cX5_linkAt 6 = .ok (.iload_n 1, 1) := by decide +kernel
theorem dX5_linkAt_7 : decode cX5_linkAt 7 = .ok (.iconst 1, 1) := by decide +kernel
theorem dX5_linkAt_8 : decode cX5_linkAt 8 = .ok (.iadd, 1) := by decide +kernel
theorem dX5_linkAt_9 : decode cX5_linkAt 9 = .ok (.aload_n 0, 1) := by decide +kernel
theorem dX5_linkAt_10 : decode cX5_linkAt 10 = .ok (.getfield 18, 3) := by decide +kernel
theorem dX5_linkAt_13 : decode cX5_linkAt 13 = .ok (.if_icmp .ge 14, 3) := by decide +kernel
theorem dX5_linkAt_16 : decode cX5_linkAt 16 = .ok (.aload_n 0, 1) := by decide +kernel
theorem dX5_linkAt_17 : decode cX5_linkAt 17 = .ok (.getfield 15, 3) := by decide +kernel
theorem dX5_linkAt_20 : decode cX5_linkAt 20 = .ok (.iload_n 1, 1) := by decide +kernel
theorem dX5_linkAt_21 : decode cX5_linkAt 21 = .ok (.iconst 1, 1) := by decide +kernel
theorem dX5_linkAt_22 : decode cX5_linkAt 22 = .ok (.iadd, 1) := by decide +kernel
theorem dX5_linkAt_23 : decode cX5_linkAt 23 = .ok (.iaload, 1) := by decide +kernel
theorem dX5_linkAt_24 : decode cX5_linkAt 24 = .ok (.goto 9, 3) := by decide +kernel
theorem dX5_linkAt_27 : decode cX5_linkAt 27 = .ok (.aload_n 0, 1) := by decide +kernel
theorem dX5_linkAt_28 : decode cX5_linkAt 28 = .ok (.getfield 15, 3) := by decide +kernel
theorem dX5_linkAt_31 : decode cX5_linkAt 31 = .ok (.iconst 0, 1) := by decide +kernel
theorem dX5_linkAt_32 : decode cX5_linkAt 32 = .ok (.iaload, 1) := by decide +kernel
theorem dX5_linkAt_33 : decode cX5_linkAt 33 = .ok (.invokestatic 41, 3) := by decide +kernel
theorem dX5_linkAt_36 : decode cX5_linkAt 36 = .ok (.ireturn, 1) := by decide +kernel
theorem dX6_init_0 : decode cX6_init 0 = .ok (.aload_n 0, 1) := by decide +kernel
theorem dX6_init_1 : decode cX6_init 1 = .ok (.invokespecial 3, 3) := by decide +kernel
theorem dX6_init_4 : decode cX6_init 4 = .ok (.aload_n 0, 1) := by decide +kernel
theorem dX6_init_5 : decode cX6_init 5 = .ok (.bipush 11, 2) := by decide +kernel
theorem dX6_init_7 : decode cX6_init 7 = .ok (.newarray .int, 2) := by decide +kernel
theorem dX6_init_9 : decode cX6_init 9 = .ok (.putfield 11, 3) := by decide +kernel
theorem dX6_init_12 : decode cX6_init 12 = .ok (.aload_n 0, 1) := by decide +kernel
theorem dX6_init_13 : decode cX6_init 13 = .ok (.iconst 0, 1) := by decide +kernel
theorem dX6_init_14 : decode cX6_init 14 = .ok (.putfield 15, 3) := by decide +kernel
theorem dX6_init_17 : decode cX6_init 17 = .ok (.aload_n 0, 1) := by decide +kernel
theorem dX6_init_18 : decode cX6_init 18 = .ok (.iconst 0, 1) := by decide +kernel
theorem dX6_init_19 : decode cX6_init 19 = .ok (.putfield 19, 3) := by decide +kernel
theorem dX6_init_22 : decode cX6_init 22 = .ok (.aload_n 0, 1) := by decide +kernel
theorem dX6_init_23 : decode cX6_init 23 = .ok (.iconst 0, 1) := by decide +kernel
theorem dX6_init_24 : decode cX6_init 24 = .ok (.putfield 22, 3) := by decide +kernel
theorem dX6_init_27 : decode cX6_init 27 = .ok (.return_, 1) := by decide +kernel
theorem dX6_search_0 : decode cX6_search 0 = .ok (.aload_n 0, 1) := by decide +kernel
theorem dX6_search_1 : decode cX6_search 1 = .ok (.iconst 0, 1) := by decide +kernel
theorem dX6_search_2 : decode cX6_search 2 = .ok (.putfield 15, 3) := by decide +kernel
theorem dX6_search_5 : decode cX6_search 5 = .ok (.aload_n 0, 1) := by decide +kernel
theorem dX6_search_6 : decode cX6_search 6 = .ok (.bipush 31, 2) := by decide +kernel
theorem dX6_search_8 : decode cX6_search 8 = .ok (.putfield 19, 3) := by decide +kernel
theorem dX6_search_11 : decode cX6_search 11 = .ok (.aload_n 0, 1) := by decide +kernel
theorem dX6_search_12 : decode cX6_search 12 = .ok (.iconst 0, 1) := by decide +kernel
theorem dX6_search_13 : decode cX6_search 13 = .ok (.putfield 22, 3) := by decide +kernel
theorem dX6_search_16 : decode cX6_search 16 = .ok (.aload_n 0, 1) := by decide +kernel
theorem dX6_search_17 : decode cX6_search 17 = .ok (.aload_n 1, 1) := by decide +kernel
theorem dX6_search_18 : decode cX6_search 18 = .ok (.iconst 0, 1) := by decide +kernel
theorem dX6_search_19 : decode cX6_search 19 = .ok (.iload_n 2, 1) := by decide +kernel
theorem dX6_search_20 : decode cX6_search 20 = .ok (.iload_n 3, 1) := by decide +kernel
theorem dX6_search_21 : decode cX6_search 21 = .ok (.iload 4, 2) := by decide +kernel
theorem dX6_search_23 : decode cX6_search 23 = .ok (.iconst 0, 1) := by decide +kernel
theorem dX6_search_24 : decode cX6_search 24 = .ok (.invokestatic 25, 3) := by decide +kernel
theorem dX6_search_27 : decode cX6_search 27 = .ok (.return_, 1) := by decide +kernel
theorem dX6_accuse_0 : decode cX6_accuse 0 = .ok (.iload_n 2, 1) := by decide +kernel
theorem dX6_accuse_1 : decode cX6_accuse 1 = .ok (.aload_n 1, 1) := by decide +kernel
theorem dX6_accuse_2 : decode cX6_accuse 2 = .ok (.getfield 29, 3) := by decide +kernel
theorem dX6_accuse_5 : decode cX6_accuse 5 = .ok (.if_icmp .lt 24, 3) := by decide +kernel
theorem dX6_accuse_8 : decode cX6_accuse 8 = .ok (.iload_n 3, 1) := by decide +kernel
theorem dX6_accuse_9 : decode cX6_accuse 9 = .ok (.ifCond .ne 19, 3) := by decide +kernel
theorem dX6_accuse_12 : decode cX6_accuse 12 = .ok (.iload 4, 2) := by decide +kernel
theorem dX6_accuse_14 : decode cX6_accuse 14 = .ok (.ifCond .ne 14, 3) := by decide +kernel
theorem dX6_accuse_17 : decode cX6_accuse 17 = .ok (.iload 5, 2) := by decide +kernel
theorem dX6_accuse_19 : decode cX6_accuse 19 = .ok (.ifCond .ne 9, 3) := by decide +kernel
theorem dX6_accuse_22 : decode cX6_accuse 22 = .ok (.aload_n 0, 1) := by decide +kernel
theorem dX6_accuse_23 : decode cX6_accuse 23 = .ok (.iload 6, 2) := by decide +kernel
theorem dX6_accuse_25 : decode cX6_accuse 25 = .ok (.invokevirtual 34, 3) := by decide +kernel
theorem dX6_accuse_28 : decode cX6_accuse 28 = .ok (.return_, 1) := by decide +kernel
theorem dX6_accuse_29 : decode cX6_accuse 29 = .ok (.iconst 0, 1) := by decide +kernel
theorem dX6_accuse_30 : decode cX6_accuse 30 = .ok (.istore 7, 2) := by decide +kernel
theorem dX6_accuse_32 : decode cX6_accuse 32 = .ok (.iload 7, 2) := by decide +kernel
theorem dX6_accuse_34 : decode cX6_accuse 34 = .ok (.iload_n 3, 1) := by decide +kernel
theorem dX6_accuse_35 : decode cX6_accuse 35 = .ok (.if_icmp .gt 72, 3) := by decide +kernel
theorem dX6_accuse_38 : decode cX6_accuse 38 = .ok (.iload 4, 2) := by decide +kernel
theorem dX6_accuse_40 : decode cX6_accuse 40 = .ok (.iload 7, 2) := by decide +kernel
theorem dX6_accuse_42 : decode cX6_accuse 42 = .ok (.aload_n 1, 1) := by decide +kernel
theorem dX6_accuse_43 : decode cX6_accuse 43 = .ok (.iload_n 2, 1) := by decide +kernel
theorem dX6_accuse_44 : decode cX6_accuse 44 = .ok (.invokevirtual 38, 3) := by decide +kernel
theorem dX6_accuse_47 : decode cX6_accuse 47 = .ok (.imul, 1) := by decide +kernel
theorem dX6_accuse_48 : decode cX6_accuse 48 = .ok (.isub, 1) := by decide +kernel
theorem dX6_accuse_49 : decode cX6_accuse 49 = .ok (.istore 8, 2) := by decide +kernel
theorem dX6_accuse_51 : decode cX6_accuse 51 = .ok (.iload 5, 2) := by decide +kernel
theorem dX6_accuse_53 : decode cX6_accuse 53 = .ok (.iload 7, 2) := by decide +kernel
theorem dX6_accuse_55 : decode cX6_accuse 55 = .ok (.aload_n 1, 1) := by decide +kernel
theorem dX6_accuse_56 : decode cX6_accuse 56 = .ok (.getfield 42, 3) := by decide +kernel
theorem dX6_accuse_59 : decode cX6_accuse 59 = .ok (.iload_n 2, 1) := by decide +kernel
theorem dX6_accuse_60 : decode cX6_accuse 60 = .ok (.iaload, 1) := by decide +kernel
theorem dX6_accuse_61 : decode cX6_accuse 61 = .ok (.imul, 1) := by decide +kernel
theorem dX6_accuse_62 : decode cX6_accuse 62 = .ok (.isub, 1) := by decide +kernel
theorem dX6_accuse_63 : decode cX6_accuse 63 = .ok (.istore 9, 2) := by decide +kernel
theorem dX6_accuse_65 : decode cX6_accuse 65 = .ok (.iload 7, 2) := by decide +kernel
theorem dX6_accuse_67 : decode cX6_accuse 67 = .ok (.ifCond .ne 8, 3) := by decide +kernel
theorem dX6_accuse_70 : decode cX6_accuse 70 = .ok (.iload 6, 2) := by decide +kernel
theorem dX6_accuse_72 : decode cX6_accuse 72 = .ok (.goto 9, 3) := by decide +kernel
theorem dX6_accuse_75 : decode cX6_accuse 75 = .ok (.iload 6, 2) := by decide +kernel
theorem dX6_accuse_77 : decode cX6_accuse 77 = .ok (.iconst 1, 1) := by decide +kernel
theorem dX6_accuse_78 : decode cX6_accuse 78 = .ok (.iload_n 2, 1) := by decide +kernel
theorem dX6_accuse_79 : decode cX6_accuse 79 = .ok (.ishl, 1) := by decide +kernel
theorem dX6_accuse_80 : decode cX6_accuse 80 = .ok (.ior, 1) := by decide +kernel
theorem dX6_accuse_81 : decode cX6_accuse 81 = .ok (.istore 10, 2) := by decide +kernel
theorem dX6_accuse_83 : decode cX6_accuse 83 = .ok (.aload_n 0, 1) := by decide +kernel
theorem dX6_accuse_84 : decode cX6_accuse 84 = .ok (.aload_n 1, 1) := by decide +kernel
theorem dX6_accuse_85 : decode cX6_accuse 85 = .ok (.iload_n 2, 1) := by decide +kernel
theorem dX6_accuse_86 : decode cX6_accuse 86 = .ok (.iconst 1, 1) := by decide +kernel
theorem dX6_accuse_87 : decode cX6_accuse 87 = .ok (.iadd, 1) := by decide +kernel
theorem dX6_accuse_88 : decode cX6_accuse 88 = .ok (.iload_n 3, 1) := by decide +kernel
theorem dX6_accuse_89 : decode cX6_accuse 89 = .ok (.iload 7, 2) := by decide +kernel
theorem dX6_accuse_91 : decode cX6_accuse 91 = .ok (.isub, 1) := by decide +kernel
end
section
theorem dX6_accuse_92 : decode cX6_accuse 92 = .ok (.iload 8, 2) := by decide +kernel
theorem dX6_accuse_94 : decode cX6_accuse 94 = .ok (.iload 9, 2) := by decide +kernel
theorem dX6_accuse_96 : decode cX6_accuse 96 = .ok (.iload 10, 2) := by decide +kernel
theorem dX6_accuse_98 : decode cX6_accuse 98 = .ok (.invokestatic 25, 3) := by decide +kernel
theorem dX6_accuse_101 : decode cX6_accuse 101 = .ok (.iinc 7 1, 3) := by decide +kernel
theorem dX6_accuse_104 : decode cX6_accuse 104 = .ok (.goto (-72), 3) := by decide +kernel
theorem dX6_accuse_107 : decode cX6_accuse 107 = .ok (.return_, 1) := by decide +kernel
theorem dX6_note_0 : decode cX6_note 0 = .ok (.aload_n 0, 1) := by decide +kernel
theorem dX6_note_1 : decode cX6_note 1 = .ok (.dup, 1) := by decide +kernel
theorem dX6_note_2 : decode cX6_note 2 = .ok (.getfield 15, 3) := by decide +kernel
theorem dX6_note_5 : decode cX6_note 5 = .ok (.iconst 1, 1) := by decide +kernel
theorem dX6_note_6 : decode cX6_note 6 = .ok (.iadd, 1) := by decide +kernel
theorem dX6_note_7 : decode cX6_note 7 = .ok (.putfield 15, 3) := by decide +kernel
theorem dX6_note_10 : decode cX6_note 10 = .ok (.aload_n 0, 1) := by decide +kernel
theorem dX6_note_11 : decode cX6_note 11 = .ok (.dup, 1) := by decide +kernel
theorem dX6_note_12 : decode cX6_note 12 = .ok (.getfield 19, 3) := by decide +kernel
theorem dX6_note_15 : decode cX6_note 15 = .ok (.iload_n 1, 1) := by decide +kernel
theorem dX6_note_16 : decode cX6_note 16 = .ok (.iand, 1) := by decide +kernel
theorem dX6_note_17 : decode cX6_note 17 = .ok (.putfield 19, 3) := by decide +kernel
theorem dX6_note_20 : decode cX6_note 20 = .ok (.aload_n 0, 1) := by decide +kernel
theorem dX6_note_21 : decode cX6_note 21 = .ok (.dup, 1) := by decide +kernel
theorem dX6_note_22 : decode cX6_note 22 = .ok (.getfield 22, 3) := by decide +kernel
theorem dX6_note_25 : decode cX6_note 25 = .ok (.iload_n 1, 1) := by decide +kernel
theorem dX6_note_26 : decode cX6_note 26 = .ok (.ior, 1) := by decide +kernel
theorem dX6_note_27 : decode cX6_note 27 = .ok (.putfield 22, 3) := by decide +kernel
theorem dX6_note_30 : decode cX6_note 30 = .ok (.return_, 1) := by decide +kernel
theorem dX6_oddsOf_0 : decode cX6_oddsOf 0 = .ok (.aload_n 0, 1) := by decide +kernel
theorem dX6_oddsOf_1 : decode cX6_oddsOf 1 = .ok (.aload_n 1, 1) := by decide +kernel
theorem dX6_oddsOf_2 : decode cX6_oddsOf 2 = .ok (.invokevirtual 45, 3) := by decide +kernel
theorem dX6_oddsOf_5 : decode cX6_oddsOf 5 = .ok (.istore 4, 2) := by decide +kernel
theorem dX6_oddsOf_7 : decode cX6_oddsOf 7 = .ok (.iconst 0, 1) := by decide +kernel
theorem dX6_oddsOf_8 : decode cX6_oddsOf 8 = .ok (.istore 5, 2) := by decide +kernel
theorem dX6_oddsOf_10 : decode cX6_oddsOf 10 = .ok (.iload_n 2, 1) := by decide +kernel
theorem dX6_oddsOf_11 : decode cX6_oddsOf 11 = .ok (.istore 6, 2) := by decide +kernel
theorem dX6_oddsOf_13 : decode cX6_oddsOf 13 = .ok (.iload 6, 2) := by decide +kernel
theorem dX6_oddsOf_15 : decode cX6_oddsOf 15 = .ok (.bipush 10, 2) := by decide +kernel
theorem dX6_oddsOf_17 : decode cX6_oddsOf 17 = .ok (.if_icmp .gt 21, 3) := by decide +kernel
theorem dX6_oddsOf_20 : decode cX6_oddsOf 20 = .ok (.iload 5, 2) := by decide +kernel
theorem dX6_oddsOf_22 : decode cX6_oddsOf 22 = .ok (.aload_n 0, 1) := by decide +kernel
theorem dX6_oddsOf_23 : decode cX6_oddsOf 23 = .ok (.getfield 11, 3) := by decide +kernel
theorem dX6_oddsOf_26 : decode cX6_oddsOf 26 = .ok (.iload 6, 2) := by decide +kernel
theorem dX6_oddsOf_28 : decode cX6_oddsOf 28 = .ok (.iaload, 1) := by decide +kernel
theorem dX6_oddsOf_29 : decode cX6_oddsOf 29 = .ok (.iadd, 1) := by decide +kernel
theorem dX6_oddsOf_30 : decode cX6_oddsOf 30 = .ok (.istore 5, 2) := by decide +kernel
theorem dX6_oddsOf_32 : decode cX6_oddsOf 32 = .ok (.iinc 6 1, 3) := by decide +kernel
theorem dX6_oddsOf_35 : decode cX6_oddsOf 35 = .ok (.goto (-22), 3) := by decide +kernel
theorem dX6_oddsOf_38 : decode cX6_oddsOf 38 = .ok (.iload 4, 2) := by decide +kernel
theorem dX6_oddsOf_40 : decode cX6_oddsOf 40 = .ok (.iload 5, 2) := by decide +kernel
theorem dX6_oddsOf_42 : decode cX6_oddsOf 42 = .ok (.invokestatic 49, 3) := by decide +kernel
theorem dX6_oddsOf_45 : decode cX6_oddsOf 45 = .ok (.istore 6, 2) := by decide +kernel
theorem dX6_oddsOf_47 : decode cX6_oddsOf 47 = .ok (.iload 6, 2) := by decide +kernel
theorem dX6_oddsOf_49 : decode cX6_oddsOf 49 = .ok (.ifCond .gt 6, 3) := by decide +kernel
theorem dX6_oddsOf_52 : decode cX6_oddsOf 52 = .ok (.bipush (-9), 2) := by decide +kernel
theorem dX6_oddsOf_54 : decode cX6_oddsOf 54 = .ok (.ireturn, 1) := by decide +kernel
theorem dX6_oddsOf_55 : decode cX6_oddsOf 55 = .ok (.iload_n 3, 1) := by decide +kernel
theorem dX6_oddsOf_56 : decode cX6_oddsOf 56 = .ok (.ifCond .eq 8, 3) := by decide +kernel
theorem dX6_oddsOf_59 : decode cX6_oddsOf 59 = .ok (.iload 5, 2) := by decide +kernel
theorem dX6_oddsOf_61 : decode cX6_oddsOf 61 = .ok (.goto 5, 3) := by decide +kernel
theorem dX6_oddsOf_64 : decode cX6_oddsOf 64 = .ok (.iload 4, 2) := by decide +kernel
theorem dX6_oddsOf_66 : decode cX6_oddsOf 66 = .ok (.iload 6, 2) := by decide +kernel
theorem dX6_oddsOf_68 : decode cX6_oddsOf 68 = .ok (.idiv, 1) := by decide +kernel
theorem dX6_oddsOf_69 : decode cX6_oddsOf 69 = .ok (.ireturn, 1) := by decide +kernel
theorem dX6_spreadChances_0 : decode cX6_spreadChances 0 = .ok (.aload_n 0, 1) := by decide +kernel
theorem dX6_spreadChances_1 : decode cX6_spreadChances 1 = .ok (.getfield 11, 3) := by decide +kernel
theorem dX6_spreadChances_4 : decode cX6_spreadChances 4 = .ok (.iconst 0, 1) := by decide +kernel
theorem dX6_spreadChances_5 : decode cX6_spreadChances 5 = .ok (.invokestatic 53, 3) := by decide +kernel
theorem dX6_spreadChances_8 : decode cX6_spreadChances 8 = .ok (.aload_n 0, 1) := by decide +kernel
theorem dX6_spreadChances_9 : decode cX6_spreadChances 9 = .ok (.getfield 11, 3) := by decide +kernel
theorem dX6_spreadChances_12 : decode cX6_spreadChances 12 = .ok (.iconst 0, 1) := by decide +kernel
theorem dX6_spreadChances_13 : decode cX6_spreadChances 13 = .ok (.iconst 1, 1) := by decide +kernel
theorem dX6_spreadChances_14 : decode cX6_spreadChances 14 = .ok (.iastore, 1) := by decide +kernel
theorem dX6_spreadChances_15 : decode cX6_spreadChances 15 = .ok (.iconst 1, 1) := by decide +kernel
theorem dX6_spreadChances_16 : decode cX6_spreadChances 16 = .ok (.istore_n 2, 1) := by decide +kernel
theorem dX6_spreadChances_17 : decode cX6_spreadChances 17 = .ok (.iconst 0, 1) := by decide +kernel
theorem dX6_spreadChances_18 : decode cX6_spreadChances 18 = .ok (.istore_n 3, 1) := by decide +kernel
theorem dX6_spreadChances_19 : decode cX6_spreadChances 19 = .ok (.iload_n 3, 1) := by decide +kernel
theorem dX6_spreadChances_20 : decode cX6_spreadChances 20 = .ok (.aload_n 1, 1) := by decide +kernel
theorem dX6_spreadChances_21 : decode cX6_spreadChances 21 = .ok (.getfield 29, 3) := by decide +kernel
theorem dX6_spreadChances_24 : decode cX6_spreadChances 24 = .ok (.if_icmp .ge 93, 3) := by decide +kernel
theorem dX6_spreadChances_27 : decode cX6_spreadChances 27 = .ok (.aload_n 1, 1) := by decide +kernel
theorem dX6_spreadChances_28 : decode cX6_spreadChances 28 = .ok (.iload_n 3, 1) := by decide +kernel
theorem dX6_spreadChances_29 : decode cX6_spreadChances 29 = .ok (.invokevirtual 38, 3) := by decide +kernel
theorem dX6_spreadChances_32 : decode cX6_spreadChances 32 = .ok (.istore 4, 2) := by decide +kernel
theorem dX6_spreadChances_34 : decode cX6_spreadChances 34 = .ok (.bipush 10, 2) := by decide +kernel
theorem dX6_spreadChances_36 : decode cX6_spreadChances 36 = .ok (.istore 5, 2) := by decide +kernel
theorem dX6_spreadChances_38 : decode cX6_spreadChances 38 = .ok (.iload 5, 2) := by decide +kernel
theorem dX6_spreadChances_40 : decode cX6_spreadChances 40 = .ok (.ifCond .lt 66, 3) := by decide +kernel
theorem dX6_spreadChances_43 : decode cX6_spreadChances 43 = .ok (.iload 5, 2) := by decide +kernel
theorem dX6_spreadChances_45 : decode cX6_spreadChances 45 = .ok (.iload 4, 2) := by decide +kernel
theorem dX6_spreadChances_47 : decode cX6_spreadChances 47 = .ok (.if_icmp .lt 26, 3) := by decide +kernel
theorem dX6_spreadChances_50 : decode cX6_spreadChances 50 = .ok (.aload_n 0, 1) := by decide +kernel
theorem dX6_spreadChances_51 : decode cX6_spreadChances 51 = .ok (.getfield 11, 3) := by decide +kernel
theorem dX6_spreadChances_54 : decode cX6_spreadChances 54 = .ok (.iload 5, 2) := by decide +kernel
theorem dX6_spreadChances_56 : decode cX6_spreadChances 56 = .ok (.iload 4, 2) := by decide +kernel
theorem dX6_spreadChances_58 : decode cX6_spreadChances 58 = .ok (.isub, 1) := by decide +kernel
theorem dX6_spreadChances_59 : decode cX6_spreadChances 59 = .ok (.iaload, 1) := by decide +kernel
theorem dX6_spreadChances_60 : decode cX6_spreadChances 60 = .ok (.bipush 10, 2) := by decide +kernel
theorem dX6_spreadChances_62 : decode cX6_spreadChances 62 = .ok (.aload_n 1, 1) := by decide +kernel
theorem dX6_spreadChances_63 : decode cX6_spreadChances 63 = .ok (.getfield 59, 3) := by decide +kernel
theorem dX6_spreadChances_66 : decode cX6_spreadChances 66 = .ok (.iload_n 3, 1) := by decide +kernel
theorem dX6_spreadChances_67 : decode cX6_spreadChances 67 = .ok (.iaload, 1) := by decide +kernel
theorem dX6_spreadChances_68 : decode cX6_spreadChances 68 = .ok (.isub, 1) := by decide +kernel
theorem dX6_spreadChances_69 : decode cX6_spreadChances 69 = .ok (.imul, 1) := by decide +kernel
theorem dX6_spreadChances_70 : decode cX6_spreadChances 70 = .ok (.goto 4, 3) := by decide +kernel
theorem dX6_spreadChances_73 : decode cX6_spreadChances 73 = .ok (.iconst 0, 1) := by decide +kernel
theorem dX6_spreadChances_74 : decode cX6_spreadChances 74 = .ok (.istore 6, 2) := by decide +kernel
theorem dX6_spreadChances_76 : decode cX6_spreadChances 76 = .ok (.aload_n 0, 1) := by decide +kernel
theorem dX6_spreadChances_77 : decode cX6_spreadChances 77 = .ok (.getfield 11, 3) := by decide +kernel
theorem dX6_spreadChances_80 : decode cX6_spreadChances 80 = .ok (.iload 5, 2) := by decide +kernel
theorem dX6_spreadChances_82 : decode cX6_spreadChances 82 = .ok (.aload_n 0, 1) := by decide +kernel
theorem dX6_spreadChances_83 : decode cX6_spreadChances 83 = .ok (.getfield 11, 3) := by decide +kernel
theorem dX6_spreadChances_86 : decode cX6_spreadChances 86 = .ok (.iload 5, 2) := by decide +kernel
theorem dX6_spreadChances_88 : decode cX6_spreadChances 88 = .ok (.iaload, 1) := by decide +kernel
theorem dX6_spreadChances_89 : decode cX6_spreadChances 89 = .ok (.aload_n 1, 1) := by decide +kernel
theorem dX6_spreadChances_90 : decode cX6_spreadChances 90 = .ok (.getfield 59, 3) := by decide +kernel
theorem dX6_spreadChances_93 : decode cX6_spreadChances 93 = .ok (.iload_n 3, 1) := by decide +kernel
theorem dX6_spreadChances_94 : decode cX6_spreadChances 94 = .ok (.iaload, 1) := by decide +kernel
theorem dX6_spreadChances_95 : decode cX6_spreadChances 95 = .ok (.imul, 1) := by decide +kernel
theorem dX6_spreadChances_96 : decode cX6_spreadChances 96 = .ok (.iload 6, 2) := by decide +kernel
theorem dX6_spreadChances_98 : decode cX6_spreadChances 98 = .ok (.iadd, 1) := by decide +kernel
theorem dX6_spreadChances_99 : decode cX6_spreadChances 99 = .ok (.iastore, 1) := by decide +kernel
theorem dX6_spreadChances_100 : decode cX6_spreadChances 100 = .ok (.iinc 5 (-1), 3) := by decide +kernel
theorem dX6_spreadChances_103 : decode cX6_spreadChances 103 = .ok (.goto (-65), 3) := by decide +kernel
theorem dX6_spreadChances_106 : decode cX6_spreadChances 106 = .ok (.iload_n 2, 1) := by decide +kernel
theorem dX6_spreadChances_107 : decode cX6_spreadChances 107 = .ok (.bipush 10, 2) := by decide +kernel
theorem dX6_spreadChances_109 : decode cX6_spreadChances 109 = .ok (.imul, 1) := by decide +kernel
theorem dX6_spreadChances_110 : decode cX6_spreadChances 110 = .ok (.istore_n 2, 1) := by decide +kernel
theorem dX6_spreadChances_111 : decode cX6_spreadChances 111 = .ok (.iinc 3 1, 3) := by decide +kernel
theorem dX6_spreadChances_114 : decode cX6_spreadChances 114 = .ok (.goto (-95), 3) := by decide +kernel
theorem dX6_spreadChances_117 : decode cX6_spreadChances 117 = .ok (.iload_n 2, 1) := by decide +kernel
theorem dX6_spreadChances_118 : decode cX6_spreadChances 118 = .ok (.ireturn, 1) := by decide +kernel
theorem dX6_commonDivisor_0 : decode cX6_commonDivisor 0 = .ok (.iconst 0, 1) := by decide +kernel
theorem dX6_commonDivisor_1 : decode cX6_commonDivisor 1 = .ok (.istore_n 2, 1) := by decide +kernel
theorem dX6_commonDivisor_2 : decode cX6_commonDivisor 2 = .ok (.iload_n 2, 1) := by decide +kernel
theorem dX6_commonDivisor_3 : decode cX6_commonDivisor 3 = .ok (.bipush 64, 2) := by decide +kernel
theorem dX6_commonDivisor_5 : decode cX6_commonDivisor 5 = .ok (.if_icmp .ge 21, 3) := by decide +kernel
theorem dX6_commonDivisor_8 : decode cX6_commonDivisor 8 = .ok (.iload_n 1, 1) := by decide +kernel
theorem dX6_commonDivisor_9 : decode cX6_commonDivisor 9 = .ok (.ifCond .eq 17, 3) := by decide +kernel
theorem dX6_commonDivisor_12 : decode cX6_commonDivisor 12 = .ok (.iload_n 0, 1) := by decide +kernel
theorem dX6_commonDivisor_13 : decode cX6_commonDivisor 13 = .ok (.iload_n 1, 1) := by decide +kernel
theorem dX6_commonDivisor_14 : decode cX6_commonDivisor 14 = .ok (.irem, 1) := by decide +kernel
theorem dX6_commonDivisor_15 : decode cX6_commonDivisor 15 = .ok (.istore_n 3, 1) := by decide +kernel
theorem dX6_commonDivisor_16 : decode cX6_commonDivisor 16 = .ok (.iload_n 1, 1) := by decide +kernel
theorem dX6_commonDivisor_17 : decode cX6_commonDivisor 17 = .ok (.istore_n 0, 1) := by decide +kernel
theorem dX6_commonDivisor_18 : decode cX6_commonDivisor 18 = .ok (.iload_n 3, 1) := by decide +kernel
theorem dX6_commonDivisor_19 : decode cX6_commonDivisor 19 = .ok (.istore_n 1, 1) := by decide +kernel
theorem dX6_commonDivisor_20 : decode cX6_commonDivisor 20 = .ok (.iinc 2 1, 3) := by decide +kernel
theorem dX6_commonDivisor_23 : decode cX6_commonDivisor 23 = .ok (.goto (-21), 3) := by decide +kernel
theorem dX6_commonDivisor_26 : decode cX6_commonDivisor 26 = .ok (.iload_n 0, 1) := by decide +kernel
theorem dX6_commonDivisor_27 : decode cX6_commonDivisor 27 = .ok (.ireturn, 1) := by decide +kernel
theorem dX7_init_0 : decode cX7_init 0 = .ok (.aload_n 0, 1) := by decide +kernel
theorem dX7_init_1 : decode cX7_init 1 = .ok (.invokespecial 3, 3) := by decide +kernel
theorem dX7_init_4 : decode cX7_init 4 = .ok (.aload_n 0, 1) := by decide +kernel
theorem dX7_init_5 : decode cX7_init 5 = .ok (.bipush 7, 2) := by decide +kernel
theorem dX7_init_7 : decode cX7_init 7 = .ok (.newarray .int, 2) := by decide +kernel
theorem dX7_init_9 : decode cX7_init 9 = .ok (.putfield 9, 3) := by decide +kernel
theorem dX7_init_12 : decode cX7_init 12 = .ok (.return_, 1) := by decide +kernel
theorem dX7_measure_0 : decode cX7_measure 0 = .ok (.aload_n 0, 1) := by decide +kernel
theorem dX7_measure_1 : decode cX7_measure 1 = .ok (.getfield 9, 3) := by decide +kernel
theorem dX7_measure_4 : decode cX7_measure 4 = .ok (.ldc 15, 2) := by decide +kernel
theorem dX7_measure_6 : decode cX7_measure 6 = .ok (.invokestatic 16, 3) := by decide +kernel
theorem dX7_measure_9 : decode cX7_measure 9 = .ok (.aload_n 0, 1) := by decide +kernel
theorem dX7_measure_10 : decode cX7_measure 10 = .ok (.getfield 9, 3) := by decide +kernel
theorem dX7_measure_13 : decode cX7_measure 13 = .ok (.iload_n 3, 1) := by decide +kernel
theorem dX7_measure_14 : decode cX7_measure 14 = .ok (.iconst 0, 1) := by decide +kernel
theorem dX7_measure_15 : decode cX7_measure 15 = .ok (.iastore, 1) := by decide +kernel
theorem dX7_measure_16 : decode cX7_measure 16 = .ok (.iconst 1, 1) := by decide +kernel
theorem dX7_measure_17 : decode cX7_measure 17 = .ok (.istore 5, 2) := by decide +kernel
theorem dX7_measure_19 : decode cX7_measure 19 = .ok (.iload 5, 2) := by decide +kernel
theorem dX7_measure_21 : decode cX7_measure 21 = .ok (.bipush 7, 2) := by decide +kernel
theorem dX7_measure_23 : decode cX7_measure 23 = .ok (.if_icmp .ge 84, 3) := by decide +kernel
theorem dX7_measure_26 : decode cX7_measure 26 = .ok (.iconst 0, 1) := by decide +kernel
theorem dX7_measure_27 : decode cX7_measure 27 = .ok (.istore 6, 2) := by decide +kernel
theorem dX7_measure_29 : decode cX7_measure 29 = .ok (.iload 6, 2) := by decide +kernel
theorem dX7_measure_31 : decode cX7_measure 31 = .ok (.aload_n 1, 1) := by decide +kernel
theorem dX7_measure_32 : decode cX7_measure 32 = .ok (.getfield 22, 3) := by decide +kernel
theorem dX7_measure_35 : decode cX7_measure 35 = .ok (.if_icmp .ge 66, 3) := by decide +kernel
theorem dX7_measure_38 : decode cX7_measure 38 = .ok (.iload 6, 2) := by decide +kernel
theorem dX7_measure_40 : decode cX7_measure 40 = .ok (.iload 4, 2) := by decide +kernel
theorem dX7_measure_42 : decode cX7_measure 42 = .ok (.if_icmp .eq 53, 3) := by decide +kernel
theorem dX7_measure_45 : decode cX7_measure 45 = .ok (.aload_n 0, 1) := by decide +kernel
theorem dX7_measure_46 : decode cX7_measure 46 = .ok (.aload_n 1, 1) := by decide +kernel
theorem dX7_measure_47 : decode cX7_measure 47 = .ok (.getfield 28, 3) := by decide +kernel
theorem dX7_measure_50 : decode cX7_measure 50 = .ok (.iload 6, 2) := by decide +kernel
theorem dX7_measure_52 : decode cX7_measure 52 = .ok (.iaload, 1) := by decide +kernel
theorem dX7_measure_53 : decode cX7_measure 53 = .ok (.aload_n 1, 1) := by decide +kernel
theorem dX7_measure_54 : decode cX7_measure 54 = .ok (.getfield 31, 3) := by decide +kernel
theorem dX7_measure_57 : decode cX7_measure 57 = .ok (.iload 6, 2) := by decide +kernel
theorem dX7_measure_59 : decode cX7_measure 59 = .ok (.iaload, 1) := by decide +kernel
theorem dX7_measure_60 : decode cX7_measure 60 = .ok (.aload_n 1, 1) := by decide +kernel
theorem dX7_measure_61 : decode cX7_measure 61 = .ok (.aload_n 2, 1) := by decide +kernel
theorem dX7_measure_62 : decode cX7_measure 62 = .ok (.iload 6, 2) := by decide +kernel
theorem dX7_measure_64 : decode cX7_measure 64 = .ok (.invokestatic 34, 3) := by decide +kernel
theorem dX7_measure_67 : decode cX7_measure 67 = .ok (.invokevirtual 38, 3) := by decide +kernel
theorem dX7_measure_70 : decode cX7_measure 70 = .ok (.aload_n 0, 1) := by decide +kernel
theorem dX7_measure_71 : decode cX7_measure 71 = .ok (.aload_n 1, 1) := by decide +kernel
theorem dX7_measure_72 : decode cX7_measure 72 = .ok (.getfield 31, 3) := by decide +kernel
theorem dX7_measure_75 : decode cX7_measure 75 = .ok (.iload 6, 2) := by decide +kernel
theorem dX7_measure_77 : decode cX7_measure 77 = .ok (.iaload, 1) := by decide +kernel
theorem dX7_measure_78 : decode cX7_measure 78 = .ok (.aload_n 1, 1) := by decide +kernel
theorem dX7_measure_79 : decode cX7_measure 79 = .ok (.getfield 28, 3) := by decide +kernel
theorem dX7_measure_82 : decode cX7_measure 82 = .ok (.iload 6, 2) := by decide +kernel
theorem dX7_measure_84 : decode cX7_measure 84 = .ok (.iaload, 1) := by decide +kernel
theorem dX7_measure_85 : decode cX7_measure 85 = .ok (.aload_n 1, 1) := by decide +kernel
theorem dX7_measure_86 : decode cX7_measure 86 = .ok (.aload_n 2, 1) := by decide +kernel
theorem dX7_measure_87 : decode cX7_measure 87 = .ok (.iload 6, 2) := by decide +kernel
theorem dX7_measure_89 : decode cX7_measure 89 = .ok (.invokestatic 34, 3) := by decide +kernel
theorem dX7_measure_92 : decode cX7_measure 92 = .ok (.invokevirtual 38, 3) := by decide +kernel
theorem dX7_measure_95 : decode cX7_measure 95 = .ok (.iinc 6 1, 3) := by decide +kernel
theorem dX7_measure_98 : decode cX7_measure 98 = .ok (.goto (-69), 3) := by decide +kernel
theorem dX7_measure_101 : decode cX7_measure 101 = .ok (.iinc 5 1, 3) := by decide +kernel
theorem dX7_measure_104 : decode cX7_measure 104 = .ok (.goto (-85), 3) := by decide +kernel
theorem dX7_measure_107 : decode cX7_measure 107 = .ok (.return_, 1) := by decide +kernel
theorem dX7_goBy_0 : decode cX7_goBy 0 = .ok (.aload_n 0, 1) := by decide +kernel
theorem dX7_goBy_1 : decode cX7_goBy 1 = .ok (.getfield 9, 3) := by decide +kernel
theorem dX7_goBy_4 : decode cX7_goBy 4 = .ok (.iload_n 2, 1) := by decide +kernel
theorem dX7_goBy_5 : decode cX7_goBy 5 = .ok (.iaload, 1) := by decide +kernel
theorem dX7_goBy_6 : decode cX7_goBy 6 = .ok (.ldc 15, 2) := by decide +kernel
theorem dX7_goBy_8 : decode cX7_goBy 8 = .ok (.if_icmp .eq 34, 3) := by decide +kernel
theorem dX7_goBy_11 : decode cX7_goBy 11 = .ok (.aload_n 0, 1) := by decide +kernel
theorem dX7_goBy_12 : decode cX7_goBy 12 = .ok (.getfield 9, 3) := by decide +kernel
theorem dX7_goBy_15 : decode cX7_goBy 15 = .ok (.iload_n 2, 1) := by decide +kernel
theorem dX7_goBy_16 : decode cX7_goBy 16 = .ok (.iaload, 1) := by decide +kernel
theorem dX7_goBy_17 : decode cX7_goBy 17 = .ok (.iload_n 3, 1) := by decide +kernel
theorem dX7_goBy_18 : decode cX7_goBy 18 = .ok (.iadd, 1) := by decide +kernel
theorem dX7_goBy_19 : decode cX7_goBy 19 = .ok (.aload_n 0, 1) := by decide +kernel
theorem dX7_goBy_20 : decode cX7_goBy 20 = .ok (.getfield 9, 3) := by decide +kernel
theorem dX7_goBy_23 : decode cX7_goBy 23 = .ok (.iload_n 1, 1) := by decide +kernel
theorem dX7_goBy_24 : decode cX7_goBy 24 = .ok (.iaload, 1) := by decide +kernel
theorem dX7_goBy_25 : decode cX7_goBy 25 = .ok (.if_icmp .ge 17, 3) := by decide +kernel
theorem dX7_goBy_28 : decode cX7_goBy 28 = .ok (.aload_n 0, 1) := by decide +kernel
theorem dX7_goBy_29 : decode cX7_goBy 29 = .ok (.getfield 9, 3) := by decide +kernel
theorem dX7_goBy_32 : decode cX7_goBy 32 = .ok (.iload_n 1, 1) := by decide +kernel
theorem dX7_goBy_33 : decode cX7_goBy 33 = .ok (.aload_n 0, 1) := by decide +kernel
theorem dX7_goBy_34 : decode cX7_goBy 34 = .ok (.getfield 9, 3) := by decide +kernel
theorem dX7_goBy_37 : decode cX7_goBy 37 = .ok (.iload_n 2, 1) := by decide +kernel
theorem dX7_goBy_38 : decode cX7_goBy 38 = .ok (.iaload, 1) := by decide +kernel
theorem dX7_goBy_39 : decode cX7_goBy 39 = .ok (.iload_n 3, 1) := by decide +kernel
theorem dX7_goBy_40 : decode cX7_goBy 40 = .ok (.iadd, 1) := by decide +kernel
theorem dX7_goBy_41 : decode cX7_goBy 41 = .ok (.iastore, 1) := by decide +kernel
theorem dX7_goBy_42 : decode cX7_goBy 42 = .ok (.return_, 1) := by decide +kernel
theorem dX7_weight_0 : decode cX7_weight 0 = .ok (.aload_n 1, 1) := by decide +kernel
theorem dX7_weight_1 : decode cX7_weight 1 = .ok (.getfield 42, 3) := by decide +kernel
theorem dX7_weight_4 : decode cX7_weight 4 = .ok (.iload_n 2, 1) := by decide +kernel
theorem dX7_weight_5 : decode cX7_weight 5 = .ok (.iaload, 1) := by decide +kernel
theorem dX7_weight_6 : decode cX7_weight 6 = .ok (.sipush 1000, 3) := by decide +kernel
theorem dX7_weight_9 : decode cX7_weight 9 = .ok (.imul, 1) := by decide +kernel
theorem dX7_weight_10 : decode cX7_weight 10 = .ok (.aload_n 0, 1) := by decide +kernel
theorem dX7_weight_11 : decode cX7_weight 11 = .ok (.getfield 47, 3) := by decide +kernel
theorem dX7_weight_14 : decode cX7_weight 14 = .ok (.iload_n 2, 1) := by decide +kernel
theorem dX7_weight_15 : decode cX7_weight 15 = .ok (.iaload, 1) := by decide +kernel
theorem dX7_weight_16 : decode cX7_weight 16 = .ok (.iadd, 1) := by decide +kernel
theorem dX7_weight_17 : decode cX7_weight 17 = .ok (.ireturn, 1) := by decide +kernel
theorem dX7_dueFrom_0 : decode cX7_dueFrom 0 = .ok (.aload_n 0, 1) := by decide +kernel
theorem dX7_dueFrom_1 : decode cX7_dueFrom 1 = .ok (.getfield 9, 3) := by decide +kernel
theorem dX7_dueFrom_4 : decode cX7_dueFrom 4 = .ok (.iload_n 1, 1) := by decide +kernel
theorem dX7_dueFrom_5 : decode cX7_dueFrom 5 = .ok (.iaload, 1) := by decide +kernel
theorem dX7_dueFrom_6 : decode cX7_dueFrom 6 = .ok (.ldc 15, 2) := by decide +kernel
theorem dX7_dueFrom_8 : decode cX7_dueFrom 8 = .ok (.if_icmp .ne 8, 3) := by decide +kernel
theorem dX7_dueFrom_11 : decode cX7_dueFrom 11 = .ok (.bipush (-9), 2) := by decide +kernel
theorem dX7_dueFrom_13 : decode cX7_dueFrom 13 = .ok (.goto 13, 3) := by decide +kernel
theorem dX7_dueFrom_16 : decode cX7_dueFrom 16 = .ok (.aload_n 0, 1) := by decide +kernel
theorem dX7_dueFrom_17 : decode cX7_dueFrom 17 = .ok (.getfield 9, 3) := by decide +kernel
theorem dX7_dueFrom_20 : decode cX7_dueFrom 20 = .ok (.iload_n 1, 1) := by decide +kernel
theorem dX7_dueFrom_21 : decode cX7_dueFrom 21 = .ok (.iaload, 1) := by decide +kernel
theorem dX7_dueFrom_22 : decode cX7_dueFrom 22 = .ok (.sipush 1000, 3) := by decide +kernel
theorem dX7_dueFrom_25 : decode cX7_dueFrom 25 = .ok (.idiv, 1) := by decide +kernel
theorem dX7_dueFrom_26 : decode cX7_dueFrom 26 = .ok (.ireturn, 1) := by decide +kernel
theorem dX7_stepsFrom_0 : decode cX7_stepsFrom 0 = .ok (.aload_n 0, 1) := by decide +kernel
theorem dX7_stepsFrom_1 : decode cX7_stepsFrom 1 = .ok (.getfield 9, 3) := by decide +kernel
theorem dX7_stepsFrom_4 : decode cX7_stepsFrom 4 = .ok (.iload_n 1, 1) := by decide +kernel
theorem dX7_stepsFrom_5 : decode cX7_stepsFrom 5 = .ok (.iaload, 1) := by decide +kernel
theorem dX7_stepsFrom_6 : decode cX7_stepsFrom 6 = .ok (.ldc 15, 2) := by decide +kernel
theorem dX7_stepsFrom_8 : decode cX7_stepsFrom 8 = .ok (.if_icmp .ne 8, 3) := by decide +kernel
theorem dX7_stepsFrom_11 : decode cX7_stepsFrom 11 = .ok (.bipush (-9), 2) := by decide +kernel
theorem dX7_stepsFrom_13 : decode cX7_stepsFrom 13 = .ok (.goto 13, 3) := by decide +kernel
theorem dX7_stepsFrom_16 : decode cX7_stepsFrom 16 = .ok (.aload_n 0, 1) := by decide +kernel
theorem dX7_stepsFrom_17 : decode cX7_stepsFrom 17 = .ok (.getfield 9, 3) := by decide +kernel
theorem dX7_stepsFrom_20 : decode cX7_stepsFrom 20 = .ok (.iload_n 1, 1) := by decide +kernel
theorem dX7_stepsFrom_21 : decode cX7_stepsFrom 21 = .ok (.iaload, 1) := by decide +kernel
theorem dX7_stepsFrom_22 : decode cX7_stepsFrom 22 = .ok (.sipush 1000, 3) := by decide +kernel
theorem dX7_stepsFrom_25 : decode cX7_stepsFrom 25 = .ok (.irem, 1) := by decide +kernel
theorem dX7_stepsFrom_26 : decode cX7_stepsFrom 26 = .ok (.ireturn, 1) := by decide +kernel
theorem dX7_firstFrom_0 : decode cX7_firstFrom 0 = .ok (.aload_n 0, 1) := by decide +kernel
theorem dX7_firstFrom_1 : decode cX7_firstFrom 1 = .ok (.getfield 9, 3) := by decide +kernel
theorem dX7_firstFrom_4 : decode cX7_firstFrom 4 = .ok (.iload_n 3, 1) := by decide +kernel
theorem dX7_firstFrom_5 : decode cX7_firstFrom 5 = .ok (.iaload, 1) := by decide +kernel
theorem dX7_firstFrom_6 : decode cX7_firstFrom 6 = .ok (.ldc 15, 2) := by decide +kernel
theorem dX7_firstFrom_8 : decode cX7_firstFrom 8 = .ok (.if_icmp .eq 12, 3) := by decide +kernel
theorem dX7_firstFrom_11 : decode cX7_firstFrom 11 = .ok (.aload_n 0, 1) := by decide +kernel
theorem dX7_firstFrom_12 : decode cX7_firstFrom 12 = .ok (.getfield 9, 3) := by decide +kernel
theorem dX7_firstFrom_15 : decode cX7_firstFrom 15 = .ok (.iload_n 3, 1) := by decide +kernel
theorem dX7_firstFrom_16 : decode cX7_firstFrom 16 = .ok (.iaload, 1) := by decide +kernel
theorem dX7_firstFrom_17 : decode cX7_firstFrom 17 = .ok (.ifCond .ne 6, 3) := by decide +kernel
theorem dX7_firstFrom_20 : decode cX7_firstFrom 20 = .ok (.bipush (-9), 2) := by decide +kernel
theorem dX7_firstFrom_22 : decode cX7_firstFrom 22 = .ok (.ireturn, 1) := by decide +kernel
theorem dX7_firstFrom_23 : decode cX7_firstFrom 23 = .ok (.iconst 0, 1) := by decide +kernel
theorem dX7_firstFrom_24 : decode cX7_firstFrom 24 = .ok (.istore 4, 2) := by decide +kernel
theorem dX7_firstFrom_26 : decode cX7_firstFrom 26 = .ok (.iload 4, 2) := by decide +kernel
theorem dX7_firstFrom_28 : decode cX7_firstFrom 28 = .ok (.aload_n 1, 1) := by decide +kernel
theorem dX7_firstFrom_29 : decode cX7_firstFrom 29 = .ok (.getfield 22, 3) := by decide +kernel
theorem dX7_firstFrom_32 : decode cX7_firstFrom 32 = .ok (.if_icmp .ge 87, 3) := by decide +kernel
theorem dX7_firstFrom_35 : decode cX7_firstFrom 35 = .ok (.aload_n 0, 1) := by decide +kernel
theorem dX7_firstFrom_36 : decode cX7_firstFrom 36 = .ok (.getfield 9, 3) := by decide +kernel
theorem dX7_firstFrom_39 : decode cX7_firstFrom 39 = .ok (.iload_n 3, 1) := by decide +kernel
theorem dX7_firstFrom_40 : decode cX7_firstFrom 40 = .ok (.iaload, 1) := by decide +kernel
theorem dX7_firstFrom_41 : decode cX7_firstFrom 41 = .ok (.aload_n 1, 1) := by decide +kernel
theorem dX7_firstFrom_42 : decode cX7_firstFrom 42 = .ok (.aload_n 2, 1) := by decide +kernel
theorem dX7_firstFrom_43 : decode cX7_firstFrom 43 = .ok (.iload 4, 2) := by decide +kernel
theorem dX7_firstFrom_45 : decode cX7_firstFrom 45 = .ok (.invokestatic 34, 3) := by decide +kernel
theorem dX7_firstFrom_48 : decode cX7_firstFrom 48 = .ok (.isub, 1) := by decide +kernel
theorem dX7_firstFrom_49 : decode cX7_firstFrom 49 = .ok (.istore 5, 2) := by decide +kernel
theorem dX7_firstFrom_51 : decode cX7_firstFrom 51 = .ok (.aload_n 1, 1) := by decide +kernel
theorem dX7_firstFrom_52 : decode cX7_firstFrom 52 = .ok (.getfield 28, 3) := by decide +kernel
theorem dX7_firstFrom_55 : decode cX7_firstFrom 55 = .ok (.iload 4, 2) := by decide +kernel
theorem dX7_firstFrom_57 : decode cX7_firstFrom 57 = .ok (.iaload, 1) := by decide +kernel
theorem dX7_firstFrom_58 : decode cX7_firstFrom 58 = .ok (.iload_n 3, 1) := by decide +kernel
theorem dX7_firstFrom_59 : decode cX7_firstFrom 59 = .ok (.if_icmp .ne 23, 3) := by decide +kernel
theorem dX7_firstFrom_62 : decode cX7_firstFrom 62 = .ok (.aload_n 0, 1) := by decide +kernel
theorem dX7_firstFrom_63 : decode cX7_firstFrom 63 = .ok (.getfield 9, 3) := by decide +kernel
theorem dX7_firstFrom_66 : decode cX7_firstFrom 66 = .ok (.aload_n 1, 1) := by decide +kernel
theorem dX7_firstFrom_67 : decode cX7_firstFrom 67 = .ok (.getfield 31, 3) := by decide +kernel
theorem dX7_firstFrom_70 : decode cX7_firstFrom 70 = .ok (.iload 4, 2) := by decide +kernel
theorem dX7_firstFrom_72 : decode cX7_firstFrom 72 = .ok (.iaload, 1) := by decide +kernel
theorem dX7_firstFrom_73 : decode cX7_firstFrom 73 = .ok (.iaload, 1) := by decide +kernel
theorem dX7_firstFrom_74 : decode cX7_firstFrom 74 = .ok (.iload 5, 2) := by decide +kernel
theorem dX7_firstFrom_76 : decode cX7_firstFrom 76 = .ok (.if_icmp .ne 6, 3) := by decide +kernel
theorem dX7_firstFrom_79 : decode cX7_firstFrom 79 = .ok (.iload 4, 2) := by decide +kernel
theorem dX7_firstFrom_81 : decode cX7_firstFrom 81 = .ok (.ireturn, 1) := by decide +kernel
theorem dX7_firstFrom_82 : decode cX7_firstFrom 82 = .ok (.aload_n 1, 1) := by decide +kernel
theorem dX7_firstFrom_83 : decode cX7_firstFrom 83 = .ok (.getfield 31, 3) := by decide +kernel
theorem dX7_firstFrom_86 : decode cX7_firstFrom 86 = .ok (.iload 4, 2) := by decide +kernel
theorem dX7_firstFrom_88 : decode cX7_firstFrom 88 = .ok (.iaload, 1) := by decide +kernel
theorem dX7_firstFrom_89 : decode cX7_firstFrom 89 = .ok (.iload_n 3, 1) := by decide +kernel
theorem dX7_firstFrom_90 : decode cX7_firstFrom 90 = .ok (.if_icmp .ne 23, 3) := by decide +kernel
theorem dX7_firstFrom_93 : decode cX7_firstFrom 93 = .ok (.aload_n 0, 1) := by decide +kernel
theorem dX7_firstFrom_94 : decode cX7_firstFrom 94 = .ok (.getfield 9, 3) := by decide +kernel
theorem dX7_firstFrom_97 : decode cX7_firstFrom 97 = .ok (.aload_n 1, 1) := by decide +kernel
theorem dX7_firstFrom_98 : decode cX7_firstFrom 98 = .ok (.getfield 28, 3) := by decide +kernel
theorem dX7_firstFrom_101 : decode cX7_firstFrom 101 = .ok (.iload 4, 2) := by decide +kernel
theorem dX7_firstFrom_103 : decode cX7_firstFrom 103 = .ok (.iaload, 1) := by decide +kernel
theorem dX7_firstFrom_104 : decode cX7_firstFrom 104 = .ok (.iaload, 1) := by decide +kernel
theorem dX7_firstFrom_105 : decode cX7_firstFrom 105 = .ok (.iload 5, 2) := by decide +kernel
theorem dX7_firstFrom_107 : decode cX7_firstFrom 107 = .ok (.if_icmp .ne 6, 3) := by decide +kernel
theorem dX7_firstFrom_110 : decode cX7_firstFrom 110 = .ok (.iload 4, 2) := by decide +kernel
theorem dX7_firstFrom_112 : decode cX7_firstFrom 112 = .ok (.ireturn, 1) := by decide +kernel
theorem dX7_firstFrom_113 : decode cX7_firstFrom 113 = .ok (.iinc 4 1, 3) := by decide +kernel
theorem dX7_firstFrom_116 : decode cX7_firstFrom 116 = .ok (.goto (-90), 3) := by decide +kernel
theorem dX7_firstFrom_119 : decode cX7_firstFrom 119 = .ok (.bipush (-9), 2) := by decide +kernel
theorem dX7_firstFrom_121 : decode cX7_firstFrom 121 = .ok (.ireturn, 1) := by decide +kernel
theorem dX7_barsBetween_0 : decode cX7_barsBetween 0 = .ok (.aload_n 0, 1) := by decide +kernel
theorem dX7_barsBetween_1 : decode cX7_barsBetween 1 = .ok (.aload_n 1, 1) := by decide +kernel
theorem dX7_barsBetween_2 : decode cX7_barsBetween 2 = .ok (.aload_n 2, 1) := by decide +kernel
theorem dX7_barsBetween_3 : decode cX7_barsBetween 3 = .ok (.iload 4, 2) := by decide +kernel
theorem dX7_barsBetween_5 : decode cX7_barsBetween 5 = .ok (.bipush (-9), 2) := by decide +kernel
theorem dX7_barsBetween_7 : decode cX7_barsBetween 7 = .ok (.invokevirtual 50, 3) := by decide +kernel
theorem dX7_barsBetween_10 : decode cX7_barsBetween 10 = .ok (.aload_n 0, 1) := by decide +kernel
theorem dX7_barsBetween_11 : decode cX7_barsBetween 11 = .ok (.getfield 9, 3) := by decide +kernel
theorem dX7_barsBetween_14 : decode cX7_barsBetween 14 = .ok (.iload_n 3, 1) := by decide +kernel
theorem dX7_barsBetween_15 : decode cX7_barsBetween 15 = .ok (.iaload, 1) := by decide +kernel
theorem dX7_barsBetween_16 : decode cX7_barsBetween 16 = .ok (.ldc 15, 2) := by decide +kernel
theorem dX7_barsBetween_18 : decode cX7_barsBetween 18 = .ok (.if_icmp .ne 5, 3) := by decide +kernel
theorem dX7_barsBetween_21 : decode cX7_barsBetween 21 = .ok (.iconst 0, 1) := by decide +kernel
theorem dX7_barsBetween_22 : decode cX7_barsBetween 22 = .ok (.ireturn, 1) := by decide +kernel
theorem dX7_barsBetween_23 : decode cX7_barsBetween 23 = .ok (.iconst 0, 1) := by decide +kernel
theorem dX7_barsBetween_24 : decode cX7_barsBetween 24 = .ok (.istore 5, 2) := by decide +kernel
theorem dX7_barsBetween_26 : decode cX7_barsBetween 26 = .ok (.iconst 0, 1) := by decide +kernel
theorem dX7_barsBetween_27 : decode cX7_barsBetween 27 = .ok (.istore 6, 2) := by decide +kernel
theorem dX7_barsBetween_29 : decode cX7_barsBetween 29 = .ok (.iload 6, 2) := by decide +kernel
theorem dX7_barsBetween_31 : decode cX7_barsBetween 31 = .ok (.aload_n 1, 1) := by decide +kernel
theorem dX7_barsBetween_32 : decode cX7_barsBetween 32 = .ok (.getfield 22, 3) := by decide +kernel
theorem dX7_barsBetween_35 : decode cX7_barsBetween 35 = .ok (.if_icmp .ge 39, 3) := by decide +kernel
theorem dX7_barsBetween_38 : decode cX7_barsBetween 38 = .ok (.aload_n 0, 1) := by decide +kernel
theorem dX7_barsBetween_39 : decode cX7_barsBetween 39 = .ok (.aload_n 1, 1) := by decide +kernel
theorem dX7_barsBetween_40 : decode cX7_barsBetween 40 = .ok (.aload_n 2, 1) := by decide +kernel
theorem dX7_barsBetween_41 : decode cX7_barsBetween 41 = .ok (.iload 4, 2) := by decide +kernel
theorem dX7_barsBetween_43 : decode cX7_barsBetween 43 = .ok (.iload 6, 2) := by decide +kernel
theorem dX7_barsBetween_45 : decode cX7_barsBetween 45 = .ok (.invokevirtual 50, 3) := by decide +kernel
theorem dX7_barsBetween_48 : decode cX7_barsBetween 48 = .ok (.aload_n 0, 1) := by decide +kernel
theorem dX7_barsBetween_49 : decode cX7_barsBetween 49 = .ok (.getfield 9, 3) := by decide +kernel
theorem dX7_barsBetween_52 : decode cX7_barsBetween 52 = .ok (.iload_n 3, 1) := by decide +kernel
theorem dX7_barsBetween_53 : decode cX7_barsBetween 53 = .ok (.iaload, 1) := by decide +kernel
theorem dX7_barsBetween_54 : decode cX7_barsBetween 54 = .ok (.ldc 15, 2) := by decide +kernel
theorem dX7_barsBetween_56 : decode cX7_barsBetween 56 = .ok (.if_icmp .ne 12, 3) := by decide +kernel
theorem dX7_barsBetween_59 : decode cX7_barsBetween 59 = .ok (.iload 5, 2) := by decide +kernel
theorem dX7_barsBetween_61 : decode cX7_barsBetween 61 = .ok (.iconst 1, 1) := by decide +kernel
theorem dX7_barsBetween_62 : decode cX7_barsBetween 62 = .ok (.iload 6, 2) := by decide +kernel
theorem dX7_barsBetween_64 : decode cX7_barsBetween 64 = .ok (.ishl, 1) := by decide +kernel
theorem dX7_barsBetween_65 : decode cX7_barsBetween 65 = .ok (.ior, 1) := by decide +kernel
theorem dX7_barsBetween_66 : decode cX7_barsBetween 66 = .ok (.istore 5, 2) := by decide +kernel
theorem dX7_barsBetween_68 : decode cX7_barsBetween 68 = .ok (.iinc 6 1, 3) := by decide +kernel
theorem dX7_barsBetween_71 : decode cX7_barsBetween 71 = .ok (.goto (-42), 3) := by decide +kernel
theorem dX7_barsBetween_74 : decode cX7_barsBetween 74 = .ok (.iload 5, 2) := by decide +kernel
theorem dX7_barsBetween_76 : decode cX7_barsBetween 76 = .ok (.ireturn, 1) := by decide +kernel
end
section
theorem dX8_init_0 : decode cX8_init 0 = .ok (.aload_n 0, 1) := by decide +kernel
theorem dX8_init_1 : decode cX8_init 1 = .ok (.invokespecial 1, 3) := by decide +kernel
theorem dX8_init_4 : decode cX8_init 4 = .ok (.aload_n 0, 1) := by decide +kernel
theorem dX8_init_5 : decode cX8_init 5 = .ok (.new 7, 3) := by decide +kernel
theorem dX8_init_8 : decode cX8_init 8 = .ok (.dup, 1) := by decide +kernel
theorem dX8_init_9 : decode cX8_init 9 = .ok (.invokespecial 9, 3) := by decide +kernel
theorem dX8_init_12 : decode cX8_init 12 = .ok (.putfield 10, 3) := by decide +kernel
theorem dX8_init_15 : decode cX8_init 15 = .ok (.aload_n 0, 1) := by decide +kernel
theorem dX8_init_16 : decode cX8_init 16 = .ok (.new 16, 3) := by decide +kernel
theorem dX8_init_19 : decode cX8_init 19 = .ok (.dup, 1) := by decide +kernel
theorem dX8_init_20 : decode cX8_init 20 = .ok (.invokespecial 18, 3) := by decide +kernel
theorem dX8_init_23 : decode cX8_init 23 = .ok (.putfield 19, 3) := by decide +kernel
theorem dX8_init_26 : decode cX8_init 26 = .ok (.aload_n 0, 1) := by decide +kernel
theorem dX8_init_27 : decode cX8_init 27 = .ok (.iconst 2, 1) := by decide +kernel
theorem dX8_init_28 : decode cX8_init 28 = .ok (.anewarray 16, 3) := by decide +kernel
theorem dX8_init_31 : decode cX8_init 31 = .ok (.putfield 23, 3) := by decide +kernel
theorem dX8_init_34 : decode cX8_init 34 = .ok (.iconst 0, 1) := by decide +kernel
theorem dX8_init_35 : decode cX8_init 35 = .ok (.istore_n 1, 1) := by decide +kernel
theorem dX8_init_36 : decode cX8_init 36 = .ok (.iload_n 1, 1) := by decide +kernel
theorem dX8_init_37 : decode cX8_init 37 = .ok (.iconst 2, 1) := by decide +kernel
theorem dX8_init_38 : decode cX8_init 38 = .ok (.if_icmp .ge 22, 3) := by decide +kernel
theorem dX8_init_41 : decode cX8_init 41 = .ok (.aload_n 0, 1) := by decide +kernel
theorem dX8_init_42 : decode cX8_init 42 = .ok (.getfield 23, 3) := by decide +kernel
theorem dX8_init_45 : decode cX8_init 45 = .ok (.iload_n 1, 1) := by decide +kernel
theorem dX8_init_46 : decode cX8_init 46 = .ok (.new 16, 3) := by decide +kernel
theorem dX8_init_49 : decode cX8_init 49 = .ok (.dup, 1) := by decide +kernel
theorem dX8_init_50 : decode cX8_init 50 = .ok (.invokespecial 18, 3) := by decide +kernel
theorem dX8_init_53 : decode cX8_init 53 = .ok (.aastore, 1) := by decide +kernel
theorem dX8_init_54 : decode cX8_init 54 = .ok (.iinc 1 1, 3) := by decide +kernel
theorem dX8_init_57 : decode cX8_init 57 = .ok (.goto (-21), 3) := by decide +kernel
theorem dX8_init_60 : decode cX8_init 60 = .ok (.aload_n 0, 1) := by decide +kernel
theorem dX8_init_61 : decode cX8_init 61 = .ok (.iconst 2, 1) := by decide +kernel
theorem dX8_init_62 : decode cX8_init 62 = .ok (.newarray .boolean, 2) := by decide +kernel
theorem dX8_init_64 : decode cX8_init 64 = .ok (.putfield 27, 3) := by decide +kernel
theorem dX8_init_67 : decode cX8_init 67 = .ok (.aload_n 0, 1) := by decide +kernel
theorem dX8_init_68 : decode cX8_init 68 = .ok (.new 31, 3) := by decide +kernel
theorem dX8_init_71 : decode cX8_init 71 = .ok (.dup, 1) := by decide +kernel
theorem dX8_init_72 : decode cX8_init 72 = .ok (.invokespecial 33, 3) := by decide +kernel
theorem dX8_init_75 : decode cX8_init 75 = .ok (.putfield 34, 3) := by decide +kernel
theorem dX8_init_78 : decode cX8_init 78 = .ok (.aload_n 0, 1) := by decide +kernel
theorem dX8_init_79 : decode cX8_init 79 = .ok (.new 38, 3) := by decide +kernel
theorem dX8_init_82 : decode cX8_init 82 = .ok (.dup, 1) := by decide +kernel
theorem dX8_init_83 : decode cX8_init 83 = .ok (.invokespecial 40, 3) := by decide +kernel
theorem dX8_init_86 : decode cX8_init 86 = .ok (.putfield 41, 3) := by decide +kernel
theorem dX8_init_89 : decode cX8_init 89 = .ok (.aload_n 0, 1) := by decide +kernel
theorem dX8_init_90 : decode cX8_init 90 = .ok (.new 45, 3) := by decide +kernel
theorem dX8_init_93 : decode cX8_init 93 = .ok (.dup, 1) := by decide +kernel
theorem dX8_init_94 : decode cX8_init 94 = .ok (.invokespecial 47, 3) := by decide +kernel
theorem dX8_init_97 : decode cX8_init 97 = .ok (.putfield 48, 3) := by decide +kernel
theorem dX8_init_100 : decode cX8_init 100 = .ok (.aload_n 0, 1) := by decide +kernel
theorem dX8_init_101 : decode cX8_init 101 = .ok (.new 52, 3) := by decide +kernel
theorem dX8_init_104 : decode cX8_init 104 = .ok (.dup, 1) := by decide +kernel
theorem dX8_init_105 : decode cX8_init 105 = .ok (.invokespecial 54, 3) := by decide +kernel
theorem dX8_init_108 : decode cX8_init 108 = .ok (.putfield 55, 3) := by decide +kernel
theorem dX8_init_111 : decode cX8_init 111 = .ok (.aload_n 0, 1) := by decide +kernel
theorem dX8_init_112 : decode cX8_init 112 = .ok (.new 59, 3) := by decide +kernel
theorem dX8_init_115 : decode cX8_init 115 = .ok (.dup, 1) := by decide +kernel
theorem dX8_init_116 : decode cX8_init 116 = .ok (.invokespecial 61, 3) := by decide +kernel
theorem dX8_init_119 : decode cX8_init 119 = .ok (.putfield 62, 3) := by decide +kernel
theorem dX8_init_122 : decode cX8_init 122 = .ok (.aload_n 0, 1) := by decide +kernel
theorem dX8_init_123 : decode cX8_init 123 = .ok (.new 59, 3) := by decide +kernel
theorem dX8_init_126 : decode cX8_init 126 = .ok (.dup, 1) := by decide +kernel
theorem dX8_init_127 : decode cX8_init 127 = .ok (.invokespecial 61, 3) := by decide +kernel
theorem dX8_init_130 : decode cX8_init 130 = .ok (.putfield 66, 3) := by decide +kernel
theorem dX8_init_133 : decode cX8_init 133 = .ok (.return_, 1) := by decide +kernel
theorem dX8_type_0 : decode cX8_type 0 = .ok (.iload_n 1, 1) := by decide +kernel
theorem dX8_type_1 : decode cX8_type 1 = .ok (.ifCond .lt 10, 3) := by decide +kernel
theorem dX8_type_4 : decode cX8_type 4 = .ok (.iload_n 1, 1) := by decide +kernel
theorem dX8_type_5 : decode cX8_type 5 = .ok (.sipush 255, 3) := by decide +kernel
theorem dX8_type_8 : decode cX8_type 8 = .ok (.if_icmp .le 5, 3) := by decide +kernel
theorem dX8_type_11 : decode cX8_type 11 = .ok (.iconst (-1), 1) := by decide +kernel
theorem dX8_type_12 : decode cX8_type 12 = .ok (.ireturn, 1) := by decide +kernel
theorem dX8_type_13 : decode cX8_type 13 = .ok (.aload_n 0, 1) := by decide +kernel
theorem dX8_type_14 : decode cX8_type 14 = .ok (.getfield 10, 3) := by decide +kernel
theorem dX8_type_17 : decode cX8_type 17 = .ok (.iload_n 1, 1) := by decide +kernel
theorem dX8_type_18 : decode cX8_type 18 = .ok (.invokevirtual 69, 3) := by decide +kernel
theorem dX8_type_21 : decode cX8_type 21 = .ok (.ifCond .eq 13, 3) := by decide +kernel
theorem dX8_type_24 : decode cX8_type 24 = .ok (.aload_n 0, 1) := by decide +kernel
theorem dX8_type_25 : decode cX8_type 25 = .ok (.getfield 10, 3) := by decide +kernel
theorem dX8_type_28 : decode cX8_type 28 = .ok (.getfield 73, 3) := by decide +kernel
theorem dX8_type_31 : decode cX8_type 31 = .ok (.goto 5, 3) := by decide +kernel
theorem dX8_type_34 : decode cX8_type 34 = .ok (.bipush (-3), 2) := by decide +kernel
theorem dX8_type_36 : decode cX8_type 36 = .ok (.ireturn, 1) := by decide +kernel
theorem dX8_clear_0 : decode cX8_clear 0 = .ok (.aload_n 0, 1) := by decide +kernel
theorem dX8_clear_1 : decode cX8_clear 1 = .ok (.getfield 10, 3) := by decide +kernel
theorem dX8_clear_4 : decode cX8_clear 4 = .ok (.getfield 73, 3) := by decide +kernel
theorem dX8_clear_7 : decode cX8_clear 7 = .ok (.istore_n 1, 1) := by decide +kernel
theorem dX8_clear_8 : decode cX8_clear 8 = .ok (.aload_n 0, 1) := by decide +kernel
theorem dX8_clear_9 : decode cX8_clear 9 = .ok (.getfield 10, 3) := by decide +kernel
theorem dX8_clear_12 : decode cX8_clear 12 = .ok (.invokevirtual 77, 3) := by decide +kernel
theorem dX8_clear_15 : decode cX8_clear 15 = .ok (.iload_n 1, 1) := by decide +kernel
theorem dX8_clear_16 : decode cX8_clear 16 = .ok (.ireturn, 1) := by decide +kernel
theorem dX8_house_0 : decode cX8_house 0 = .ok (.aload_n 0, 1) := by decide +kernel
theorem dX8_house_1 : decode cX8_house 1 = .ok (.getfield 10, 3) := by decide +kernel
theorem dX8_house_4 : decode cX8_house 4 = .ok (.aload_n 0, 1) := by decide +kernel
theorem dX8_house_5 : decode cX8_house 5 = .ok (.getfield 66, 3) := by decide +kernel
theorem dX8_house_8 : decode cX8_house 8 = .ok (.invokevirtual 80, 3) := by decide +kernel
theorem dX8_house_11 : decode cX8_house 11 = .ok (.istore_n 1, 1) := by decide +kernel
theorem dX8_house_12 : decode cX8_house 12 = .ok (.iload_n 1, 1) := by decide +kernel
theorem dX8_house_13 : decode cX8_house 13 = .ok (.ifCond .ge 5, 3) := by decide +kernel
theorem dX8_house_16 : decode cX8_house 16 = .ok (.iload_n 1, 1) := by decide +kernel
theorem dX8_house_17 : decode cX8_house 17 = .ok (.ireturn, 1) := by decide +kernel
theorem dX8_house_18 : decode cX8_house 18 = .ok (.aload_n 0, 1) := by decide +kernel
theorem dX8_house_19 : decode cX8_house 19 = .ok (.getfield 66, 3) := by decide +kernel
theorem dX8_house_22 : decode cX8_house 22 = .ok (.astore_n 2, 1) := by decide +kernel
theorem dX8_house_23 : decode cX8_house 23 = .ok (.aload_n 0, 1) := by decide +kernel
theorem dX8_house_24 : decode cX8_house 24 = .ok (.aload_n 0, 1) := by decide +kernel
theorem dX8_house_25 : decode cX8_house 25 = .ok (.getfield 62, 3) := by decide +kernel
theorem dX8_house_28 : decode cX8_house 28 = .ok (.putfield 66, 3) := by decide +kernel
theorem dX8_house_31 : decode cX8_house 31 = .ok (.aload_n 0, 1) := by decide +kernel
theorem dX8_house_32 : decode cX8_house 32 = .ok (.aload_n 2, 1) := by decide +kernel
theorem dX8_house_33 : decode cX8_house 33 = .ok (.putfield 62, 3) := by decide +kernel
theorem dX8_house_36 : decode cX8_house 36 = .ok (.aload_n 0, 1) := by decide +kernel
theorem dX8_house_37 : decode cX8_house 37 = .ok (.getfield 10, 3) := by decide +kernel
theorem dX8_house_40 : decode cX8_house 40 = .ok (.invokevirtual 77, 3) := by decide +kernel
theorem dX8_house_43 : decode cX8_house 43 = .ok (.aload_n 0, 1) := by decide +kernel
theorem dX8_house_44 : decode cX8_house 44 = .ok (.getfield 19, 3) := by decide +kernel
theorem dX8_house_47 : decode cX8_house 47 = .ok (.aload_n 0, 1) := by decide +kernel
theorem dX8_house_48 : decode cX8_house 48 = .ok (.getfield 62, 3) := by decide +kernel
theorem dX8_house_51 : decode cX8_house 51 = .ok (.invokevirtual 84, 3) := by decide +kernel
theorem dX8_house_54 : decode cX8_house 54 = .ok (.iconst 0, 1) := by decide +kernel
theorem dX8_house_55 : decode cX8_house 55 = .ok (.istore_n 3, 1) := by decide +kernel
theorem dX8_house_56 : decode cX8_house 56 = .ok (.iload_n 3, 1) := by decide +kernel
theorem dX8_house_57 : decode cX8_house 57 = .ok (.iconst 2, 1) := by decide +kernel
theorem dX8_house_58 : decode cX8_house 58 = .ok (.if_icmp .ge 16, 3) := by decide +kernel
theorem dX8_house_61 : decode cX8_house 61 = .ok (.aload_n 0, 1) := by decide +kernel
theorem dX8_house_62 : decode cX8_house 62 = .ok (.getfield 27, 3) := by decide +kernel
theorem dX8_house_65 : decode cX8_house 65 = .ok (.iload_n 3, 1) := by decide +kernel
theorem dX8_house_66 : decode cX8_house 66 = .ok (.iconst 0, 1) := by decide +kernel
theorem dX8_house_67 : decode cX8_house 67 = .ok (.bastore, 1) := by decide +kernel
theorem dX8_house_68 : decode cX8_house 68 = .ok (.iinc 3 1, 3) := by decide +kernel
theorem dX8_house_71 : decode cX8_house 71 = .ok (.goto (-15), 3) := by decide +kernel
theorem dX8_house_74 : decode cX8_house 74 = .ok (.iload_n 1, 1) := by decide +kernel
theorem dX8_house_75 : decode cX8_house 75 = .ok (.ireturn, 1) := by decide +kernel
theorem dX8_stair_0 : decode cX8_stair 0 = .ok (.aload_n 0, 1) := by decide +kernel
theorem dX8_stair_1 : decode cX8_stair 1 = .ok (.getfield 62, 3) := by decide +kernel
theorem dX8_stair_4 : decode cX8_stair 4 = .ok (.iload_n 1, 1) := by decide +kernel
theorem dX8_stair_5 : decode cX8_stair 5 = .ok (.invokevirtual 88, 3) := by decide +kernel
theorem dX8_stair_8 : decode cX8_stair 8 = .ok (.ifCond .ne 5, 3) := by decide +kernel
theorem dX8_stair_11 : decode cX8_stair 11 = .ok (.iconst (-1), 1) := by decide +kernel
theorem dX8_stair_12 : decode cX8_stair 12 = .ok (.ireturn, 1) := by decide +kernel
theorem dX8_stair_13 : decode cX8_stair 13 = .ok (.iload_n 2, 1) := by decide +kernel
theorem dX8_stair_14 : decode cX8_stair 14 = .ok (.tableswitch 114 0 6 #[42, 52, 62, 72, 82, 95, 108], 42) := by decide +kernel
theorem dX8_stair_56 : decode cX8_stair 56 = .ok (.aload_n 0, 1) := by decide +kernel
theorem dX8_stair_57 : decode cX8_stair 57 = .ok (.getfield 62, 3) := by decide +kernel
theorem dX8_stair_60 : decode cX8_stair 60 = .ok (.getfield 91, 3) := by decide +kernel
theorem dX8_stair_63 : decode cX8_stair 63 = .ok (.iload_n 1, 1) := by decide +kernel
theorem dX8_stair_64 : decode cX8_stair 64 = .ok (.iaload, 1) := by decide +kernel
theorem dX8_stair_65 : decode cX8_stair 65 = .ok (.ireturn, 1) := by decide +kernel
theorem dX8_stair_66 : decode cX8_stair 66 = .ok (.aload_n 0, 1) := by decide +kernel
theorem dX8_stair_67 : decode cX8_stair 67 = .ok (.getfield 62, 3) := by decide +kernel
theorem dX8_stair_70 : decode cX8_stair 70 = .ok (.getfield 95, 3) := by decide +kernel
theorem dX8_stair_73 : decode cX8_stair 73 = .ok (.iload_n 1, 1) := by decide +kernel
theorem dX8_stair_74 : decode cX8_stair 74 = .ok (.iaload, 1) := by decide +kernel
theorem dX8_stair_75 : decode cX8_stair 75 = .ok (.ireturn, 1) := by decide +kernel
theorem dX8_stair_76 : decode cX8_stair 76 = .ok (.aload_n 0, 1) := by decide +kernel
theorem dX8_stair_77 : decode cX8_stair 77 = .ok (.getfield 62, 3) := by decide +kernel
theorem dX8_stair_80 : decode cX8_stair 80 = .ok (.getfield 98, 3) := by decide +kernel
theorem dX8_stair_83 : decode cX8_stair 83 = .ok (.iload_n 1, 1) := by decide +kernel
theorem dX8_stair_84 : decode cX8_stair 84 = .ok (.iaload, 1) := by decide +kernel
theorem dX8_stair_85 : decode cX8_stair 85 = .ok (.ireturn, 1) := by decide +kernel
theorem dX8_stair_86 : decode cX8_stair 86 = .ok (.aload_n 0, 1) := by decide +kernel
theorem dX8_stair_87 : decode cX8_stair 87 = .ok (.getfield 62, 3) := by decide +kernel
theorem dX8_stair_90 : decode cX8_stair 90 = .ok (.getfield 101, 3) := by decide +kernel
theorem dX8_stair_93 : decode cX8_stair 93 = .ok (.iload_n 1, 1) := by decide +kernel
theorem dX8_stair_94 : decode cX8_stair 94 = .ok (.iaload, 1) := by decide +kernel
theorem dX8_stair_95 : decode cX8_stair 95 = .ok (.ireturn, 1) := by decide +kernel
theorem dX8_stair_96 : decode cX8_stair 96 = .ok (.aload_n 0, 1) := by decide +kernel
theorem dX8_stair_97 : decode cX8_stair 97 = .ok (.getfield 19, 3) := by decide +kernel
theorem dX8_stair_100 : decode cX8_stair 100 = .ok (.getfield 104, 3) := by decide +kernel
theorem dX8_stair_103 : decode cX8_stair 103 = .ok (.getfield 108, 3) := by decide +kernel
theorem dX8_stair_106 : decode cX8_stair 106 = .ok (.iload_n 1, 1) := by decide +kernel
theorem dX8_stair_107 : decode cX8_stair 107 = .ok (.iaload, 1) := by decide +kernel
theorem dX8_stair_108 : decode cX8_stair 108 = .ok (.ireturn, 1) := by decide +kernel
theorem dX8_stair_109 : decode cX8_stair 109 = .ok (.aload_n 0, 1) := by decide +kernel
theorem dX8_stair_110 : decode cX8_stair 110 = .ok (.getfield 19, 3) := by decide +kernel
theorem dX8_stair_113 : decode cX8_stair 113 = .ok (.getfield 104, 3) := by decide +kernel
theorem dX8_stair_116 : decode cX8_stair 116 = .ok (.getfield 113, 3) := by decide +kernel
theorem dX8_stair_119 : decode cX8_stair 119 = .ok (.iload_n 1, 1) := by decide +kernel
theorem dX8_stair_120 : decode cX8_stair 120 = .ok (.iaload, 1) := by decide +kernel
theorem dX8_stair_121 : decode cX8_stair 121 = .ok (.ireturn, 1) := by decide +kernel
theorem dX8_stair_122 : decode cX8_stair 122 = .ok (.aload_n 0, 1) := by decide +kernel
theorem dX8_stair_123 : decode cX8_stair 123 = .ok (.iload_n 1, 1) := by decide +kernel
theorem dX8_stair_124 : decode cX8_stair 124 = .ok (.invokevirtual 116, 3) := by decide +kernel
theorem dX8_stair_127 : decode cX8_stair 127 = .ok (.ireturn, 1) := by decide +kernel
theorem dX8_stair_128 : decode cX8_stair 128 = .ok (.iconst (-1), 1) := by decide +kernel
theorem dX8_stair_129 : decode cX8_stair 129 = .ok (.ireturn, 1) := by decide +kernel
theorem dX8_person_0 : decode cX8_person 0 = .ok (.aload_n 0, 1) := by decide +kernel
theorem dX8_person_1 : decode cX8_person 1 = .ok (.getfield 62, 3) := by decide +kernel
theorem dX8_person_4 : decode cX8_person 4 = .ok (.iload_n 1, 1) := by decide +kernel
theorem dX8_person_5 : decode cX8_person 5 = .ok (.invokevirtual 120, 3) := by decide +kernel
theorem dX8_person_8 : decode cX8_person 8 = .ok (.ifCond .ne 5, 3) := by decide +kernel
theorem dX8_person_11 : decode cX8_person 11 = .ok (.iconst (-1), 1) := by decide +kernel
theorem dX8_person_12 : decode cX8_person 12 = .ok (.ireturn, 1) := by decide +kernel
theorem dX8_person_13 : decode cX8_person 13 = .ok (.iload_n 2, 1) := by decide +kernel
theorem dX8_person_14 : decode cX8_person 14 = .ok (.tableswitch 56 0 2 #[26, 36, 46], 26) := by decide +kernel
theorem dX8_person_40 : decode cX8_person 40 = .ok (.aload_n 0, 1) := by decide +kernel
theorem dX8_person_41 : decode cX8_person 41 = .ok (.getfield 62, 3) := by decide +kernel
theorem dX8_person_44 : decode cX8_person 44 = .ok (.getfield 123, 3) := by decide +kernel
theorem dX8_person_47 : decode cX8_person 47 = .ok (.iload_n 1, 1) := by decide +kernel
theorem dX8_person_48 : decode cX8_person 48 = .ok (.iaload, 1) := by decide +kernel
theorem dX8_person_49 : decode cX8_person 49 = .ok (.ireturn, 1) := by decide +kernel
theorem dX8_person_50 : decode cX8_person 50 = .ok (.aload_n 0, 1) := by decide +kernel
theorem dX8_person_51 : decode cX8_person 51 = .ok (.getfield 62, 3) := by decide +kernel
theorem dX8_person_54 : decode cX8_person 54 = .ok (.getfield 126, 3) := by decide +kernel
theorem dX8_person_57 : decode cX8_person 57 = .ok (.iload_n 1, 1) := by decide +kernel
theorem dX8_person_58 : decode cX8_person 58 = .ok (.iaload, 1) := by decide +kernel
theorem dX8_person_59 : decode cX8_person 59 = .ok (.ireturn, 1) := by decide +kernel
theorem dX8_person_60 : decode cX8_person 60 = .ok (.aload_n 0, 1) := by decide +kernel
theorem dX8_person_61 : decode cX8_person 61 = .ok (.getfield 62, 3) := by decide +kernel
theorem dX8_person_64 : decode cX8_person 64 = .ok (.getfield 129, 3) := by decide +kernel
theorem dX8_person_67 : decode cX8_person 67 = .ok (.iload_n 1, 1) := by decide +kernel
theorem dX8_person_68 : decode cX8_person 68 = .ok (.iaload, 1) := by decide +kernel
theorem dX8_person_69 : decode cX8_person 69 = .ok (.ireturn, 1) := by decide +kernel
theorem dX8_person_70 : decode cX8_person 70 = .ok (.iconst (-1), 1) := by decide +kernel
theorem dX8_person_71 : decode cX8_person 71 = .ok (.ireturn, 1) := by decide +kernel
theorem dX8_bond_0 : decode cX8_bond 0 = .ok (.aload_n 0, 1) := by decide +kernel
theorem dX8_bond_1 : decode cX8_bond 1 = .ok (.getfield 62, 3) := by decide +kernel
theorem dX8_bond_4 : decode cX8_bond 4 = .ok (.iload_n 1, 1) := by decide +kernel
theorem dX8_bond_5 : decode cX8_bond 5 = .ok (.iload_n 2, 1) := by decide +kernel
theorem dX8_bond_6 : decode cX8_bond 6 = .ok (.invokevirtual 132, 3) := by decide +kernel
theorem dX8_bond_9 : decode cX8_bond 9 = .ok (.ifCond .eq 22, 3) := by decide +kernel
theorem dX8_bond_12 : decode cX8_bond 12 = .ok (.aload_n 0, 1) := by decide +kernel
theorem dX8_bond_13 : decode cX8_bond 13 = .ok (.getfield 19, 3) := by decide +kernel
theorem dX8_bond_16 : decode cX8_bond 16 = .ok (.getfield 104, 3) := by decide +kernel
theorem dX8_bond_19 : decode cX8_bond 19 = .ok (.getfield 136, 3) := by decide +kernel
theorem dX8_bond_22 : decode cX8_bond 22 = .ok (.iload_n 1, 1) := by decide +kernel
theorem dX8_bond_23 : decode cX8_bond 23 = .ok (.iload_n 2, 1) := by decide +kernel
theorem dX8_bond_24 : decode cX8_bond 24 = .ok (.invokestatic 139, 3) := by decide +kernel
theorem dX8_bond_27 : decode cX8_bond 27 = .ok (.iaload, 1) := by decide +kernel
theorem dX8_bond_28 : decode cX8_bond 28 = .ok (.goto 4, 3) := by decide +kernel
theorem dX8_bond_31 : decode cX8_bond 31 = .ok (.iconst (-1), 1) := by decide +kernel
theorem dX8_bond_32 : decode cX8_bond 32 = .ok (.ireturn, 1) := by decide +kernel
theorem dX8_falls_0 : decode cX8_falls 0 = .ok (.aload_n 0, 1) := by decide +kernel
theorem dX8_falls_1 : decode cX8_falls 1 = .ok (.getfield 62, 3) := by decide +kernel
theorem dX8_falls_4 : decode cX8_falls 4 = .ok (.iload_n 1, 1) := by decide +kernel
theorem dX8_falls_5 : decode cX8_falls 5 = .ok (.invokevirtual 120, 3) := by decide +kernel
theorem dX8_falls_8 : decode cX8_falls 8 = .ok (.ifCond .eq 14, 3) := by decide +kernel
theorem dX8_falls_11 : decode cX8_falls 11 = .ok (.aload_n 0, 1) := by decide +kernel
theorem dX8_falls_12 : decode cX8_falls 12 = .ok (.getfield 62, 3) := by decide +kernel
theorem dX8_falls_15 : decode cX8_falls 15 = .ok (.iload_n 2, 1) := by decide +kernel
theorem dX8_falls_16 : decode cX8_falls 16 = .ok (.invokevirtual 88, 3) := by decide +kernel
theorem dX8_falls_19 : decode cX8_falls 19 = .ok (.ifCond .ne 5, 3) := by decide +kernel
theorem dX8_falls_22 : decode cX8_falls 22 = .ok (.iconst (-1), 1) := by decide +kernel
theorem dX8_falls_23 : decode cX8_falls 23 = .ok (.ireturn, 1) := by decide +kernel
theorem dX8_falls_24 : decode cX8_falls 24 = .ok (.aload_n 0, 1) := by decide +kernel
theorem dX8_falls_25 : decode cX8_falls 25 = .ok (.getfield 19, 3) := by decide +kernel
theorem dX8_falls_28 : decode cX8_falls 28 = .ok (.invokevirtual 143, 3) := by decide +kernel
theorem dX8_falls_31 : decode cX8_falls 31 = .ok (.aload_n 0, 1) := by decide +kernel
theorem dX8_falls_32 : decode cX8_falls 32 = .ok (.getfield 19, 3) := by decide +kernel
theorem dX8_falls_35 : decode cX8_falls 35 = .ok (.getfield 104, 3) := by decide +kernel
theorem dX8_falls_38 : decode cX8_falls 38 = .ok (.aload_n 0, 1) := by decide +kernel
theorem dX8_falls_39 : decode cX8_falls 39 = .ok (.getfield 62, 3) := by decide +kernel
theorem dX8_falls_42 : decode cX8_falls 42 = .ok (.getfield 129, 3) := by decide +kernel
theorem dX8_falls_45 : decode cX8_falls 45 = .ok (.iload_n 1, 1) := by decide +kernel
theorem dX8_falls_46 : decode cX8_falls 46 = .ok (.iaload, 1) := by decide +kernel
theorem dX8_falls_47 : decode cX8_falls 47 = .ok (.invokevirtual 146, 3) := by decide +kernel
theorem dX8_falls_50 : decode cX8_falls 50 = .ok (.aload_n 0, 1) := by decide +kernel
theorem dX8_falls_51 : decode cX8_falls 51 = .ok (.getfield 19, 3) := by decide +kernel
theorem dX8_falls_54 : decode cX8_falls 54 = .ok (.getfield 104, 3) := by decide +kernel
theorem dX8_falls_57 : decode cX8_falls 57 = .ok (.iload_n 2, 1) := by decide +kernel
theorem dX8_falls_58 : decode cX8_falls 58 = .ok (.aload_n 0, 1) := by decide +kernel
theorem dX8_falls_59 : decode cX8_falls 59 = .ok (.getfield 62, 3) := by decide +kernel
theorem dX8_falls_62 : decode cX8_falls 62 = .ok (.iload_n 1, 1) := by decide +kernel
theorem dX8_falls_63 : decode cX8_falls 63 = .ok (.invokevirtual 150, 3) := by decide +kernel
theorem dX8_falls_66 : decode cX8_falls 66 = .ok (.invokevirtual 153, 3) := by decide +kernel
theorem dX8_falls_69 : decode cX8_falls 69 = .ok (.ireturn, 1) := by decide +kernel
theorem dX8_together_0 : decode cX8_together 0 = .ok (.aload_n 0, 1) := by decide +kernel
theorem dX8_together_1 : decode cX8_together 1 = .ok (.getfield 62, 3) := by decide +kernel
theorem dX8_together_4 : decode cX8_together 4 = .ok (.iload_n 1, 1) := by decide +kernel
theorem dX8_together_5 : decode cX8_together 5 = .ok (.invokevirtual 120, 3) := by decide +kernel
theorem dX8_together_8 : decode cX8_together 8 = .ok (.ifCond .eq 30, 3) := by decide +kernel
theorem dX8_together_11 : decode cX8_together 11 = .ok (.aload_n 0, 1) := by decide +kernel
theorem dX8_together_12 : decode cX8_together 12 = .ok (.getfield 62, 3) := by decide +kernel
theorem dX8_together_15 : decode cX8_together 15 = .ok (.iload_n 2, 1) := by decide +kernel
theorem dX8_together_16 : decode cX8_together 16 = .ok (.invokevirtual 120, 3) := by decide +kernel
theorem dX8_together_19 : decode cX8_together 19 = .ok (.ifCond .eq 19, 3) := by decide +kernel
theorem dX8_together_22 : decode cX8_together 22 = .ok (.iload_n 1, 1) := by decide +kernel
theorem dX8_together_23 : decode cX8_together 23 = .ok (.iload_n 2, 1) := by decide +kernel
theorem dX8_together_24 : decode cX8_together 24 = .ok (.if_icmp .eq 14, 3) := by decide +kernel
theorem dX8_together_27 : decode cX8_together 27 = .ok (.aload_n 0, 1) := by decide +kernel
theorem dX8_together_28 : decode cX8_together 28 = .ok (.getfield 62, 3) := by decide +kernel
theorem dX8_together_31 : decode cX8_together 31 = .ok (.iload_n 3, 1) := by decide +kernel
theorem dX8_together_32 : decode cX8_together 32 = .ok (.invokevirtual 88, 3) := by decide +kernel
theorem dX8_together_35 : decode cX8_together 35 = .ok (.ifCond .ne 5, 3) := by decide +kernel
theorem dX8_together_38 : decode cX8_together 38 = .ok (.iconst (-1), 1) := by decide +kernel
theorem dX8_together_39 : decode cX8_together 39 = .ok (.ireturn, 1) := by decide +kernel
theorem dX8_together_40 : decode cX8_together 40 = .ok (.aload_n 0, 1) := by decide +kernel
theorem dX8_together_41 : decode cX8_together 41 = .ok (.getfield 19, 3) := by decide +kernel
theorem dX8_together_44 : decode cX8_together 44 = .ok (.invokevirtual 143, 3) := by decide +kernel
theorem dX8_together_47 : decode cX8_together 47 = .ok (.aload_n 0, 1) := by decide +kernel
theorem dX8_together_48 : decode cX8_together 48 = .ok (.getfield 19, 3) := by decide +kernel
theorem dX8_together_51 : decode cX8_together 51 = .ok (.getfield 104, 3) := by decide +kernel
theorem dX8_together_54 : decode cX8_together 54 = .ok (.aload_n 0, 1) := by decide +kernel
theorem dX8_together_55 : decode cX8_together 55 = .ok (.getfield 62, 3) := by decide +kernel
theorem dX8_together_58 : decode cX8_together 58 = .ok (.getfield 129, 3) := by decide +kernel
theorem dX8_together_61 : decode cX8_together 61 = .ok (.iload_n 1, 1) := by decide +kernel
theorem dX8_together_62 : decode cX8_together 62 = .ok (.iaload, 1) := by decide +kernel
theorem dX8_together_63 : decode cX8_together 63 = .ok (.aload_n 0, 1) := by decide +kernel
theorem dX8_together_64 : decode cX8_together 64 = .ok (.getfield 62, 3) := by decide +kernel
theorem dX8_together_67 : decode cX8_together 67 = .ok (.getfield 129, 3) := by decide +kernel
theorem dX8_together_70 : decode cX8_together 70 = .ok (.iload_n 2, 1) := by decide +kernel
theorem dX8_together_71 : decode cX8_together 71 = .ok (.iaload, 1) := by decide +kernel
theorem dX8_together_72 : decode cX8_together 72 = .ok (.iadd, 1) := by decide +kernel
theorem dX8_together_73 : decode cX8_together 73 = .ok (.invokevirtual 146, 3) := by decide +kernel
theorem dX8_together_76 : decode cX8_together 76 = .ok (.aload_n 0, 1) := by decide +kernel
theorem dX8_together_77 : decode cX8_together 77 = .ok (.getfield 19, 3) := by decide +kernel
theorem dX8_together_80 : decode cX8_together 80 = .ok (.getfield 104, 3) := by decide +kernel
theorem dX8_together_83 : decode cX8_together 83 = .ok (.iload_n 3, 1) := by decide +kernel
theorem dX8_together_84 : decode cX8_together 84 = .ok (.aload_n 0, 1) := by decide +kernel
theorem dX8_together_85 : decode cX8_together 85 = .ok (.getfield 62, 3) := by decide +kernel
theorem dX8_together_88 : decode cX8_together 88 = .ok (.getfield 156, 3) := by decide +kernel
theorem dX8_together_91 : decode cX8_together 91 = .ok (.invokevirtual 153, 3) := by decide +kernel
theorem dX8_together_94 : decode cX8_together 94 = .ok (.ireturn, 1) := by decide +kernel
theorem dX8_throwsDoll_0 : decode cX8_throwsDoll 0 = .ok (.aload_n 0, 1) := by decide +kernel
theorem dX8_throwsDoll_1 : decode cX8_throwsDoll 1 = .ok (.getfield 62, 3) := by decide +kernel
theorem dX8_throwsDoll_4 : decode cX8_throwsDoll 4 = .ok (.iload_n 1, 1) := by decide +kernel
theorem dX8_throwsDoll_5 : decode cX8_throwsDoll 5 = .ok (.invokevirtual 88, 3) := by decide +kernel
theorem dX8_throwsDoll_8 : decode cX8_throwsDoll 8 = .ok (.ifCond .ne 5, 3) := by decide +kernel
theorem dX8_throwsDoll_11 : decode cX8_throwsDoll 11 = .ok (.iconst (-1), 1) := by decide +kernel
theorem dX8_throwsDoll_12 : decode cX8_throwsDoll 12 = .ok (.ireturn, 1) := by decide +kernel
theorem dX8_throwsDoll_13 : decode cX8_throwsDoll 13 = .ok (.aload_n 0, 1) := by decide +kernel
theorem dX8_throwsDoll_14 : decode cX8_throwsDoll 14 = .ok (.getfield 19, 3) := by decide +kernel
theorem dX8_throwsDoll_17 : decode cX8_throwsDoll 17 = .ok (.getfield 104, 3) := by decide +kernel
theorem dX8_throwsDoll_20 : decode cX8_throwsDoll 20 = .ok (.getfield 113, 3) := by decide +kernel
theorem dX8_throwsDoll_23 : decode cX8_throwsDoll 23 = .ok (.iload_n 1, 1) := by decide +kernel
theorem dX8_throwsDoll_24 : decode cX8_throwsDoll 24 = .ok (.iaload, 1) := by decide +kernel
theorem dX8_throwsDoll_25 : decode cX8_throwsDoll 25 = .ok (.aload_n 0, 1) := by decide +kernel
theorem dX8_throwsDoll_26 : decode cX8_throwsDoll 26 = .ok (.getfield 62, 3) := by decide +kernel
theorem dX8_throwsDoll_29 : decode cX8_throwsDoll 29 = .ok (.getfield 159, 3) := by decide +kernel
theorem dX8_throwsDoll_32 : decode cX8_throwsDoll 32 = .ok (.if_icmp .lt 6, 3) := by decide +kernel
theorem dX8_throwsDoll_35 : decode cX8_throwsDoll 35 = .ok (.bipush (-2), 2) := by decide +kernel
theorem dX8_throwsDoll_37 : decode cX8_throwsDoll 37 = .ok (.ireturn, 1) := by decide +kernel
theorem dX8_throwsDoll_38 : decode cX8_throwsDoll 38 = .ok (.aload_n 0, 1) := by decide +kernel
theorem dX8_throwsDoll_39 : decode cX8_throwsDoll 39 = .ok (.getfield 19, 3) := by decide +kernel
theorem dX8_throwsDoll_42 : decode cX8_throwsDoll 42 = .ok (.invokevirtual 143, 3) := by decide +kernel
theorem dX8_throwsDoll_45 : decode cX8_throwsDoll 45 = .ok (.aload_n 0, 1) := by decide +kernel
theorem dX8_throwsDoll_46 : decode cX8_throwsDoll 46 = .ok (.getfield 19, 3) := by decide +kernel
theorem dX8_throwsDoll_49 : decode cX8_throwsDoll 49 = .ok (.getfield 104, 3) := by decide +kernel
theorem dX8_throwsDoll_52 : decode cX8_throwsDoll 52 = .ok (.getfield 113, 3) := by decide +kernel
theorem dX8_throwsDoll_55 : decode cX8_throwsDoll 55 = .ok (.iload_n 1, 1) := by decide +kernel
theorem dX8_throwsDoll_56 : decode cX8_throwsDoll 56 = .ok (.dup2, 1) := by decide +kernel
theorem dX8_throwsDoll_57 : decode cX8_throwsDoll 57 = .ok (.iaload, 1) := by decide +kernel
theorem dX8_throwsDoll_58 : decode cX8_throwsDoll 58 = .ok (.iconst 1, 1) := by decide +kernel
theorem dX8_throwsDoll_59 : decode cX8_throwsDoll 59 = .ok (.iadd, 1) := by decide +kernel
theorem dX8_throwsDoll_60 : decode cX8_throwsDoll 60 = .ok (.iastore, 1) := by decide +kernel
theorem dX8_throwsDoll_61 : decode cX8_throwsDoll 61 = .ok (.aload_n 0, 1) := by decide +kernel
theorem dX8_throwsDoll_62 : decode cX8_throwsDoll 62 = .ok (.getfield 19, 3) := by decide +kernel
theorem dX8_throwsDoll_65 : decode cX8_throwsDoll 65 = .ok (.getfield 104, 3) := by decide +kernel
theorem dX8_throwsDoll_68 : decode cX8_throwsDoll 68 = .ok (.iload_n 1, 1) := by decide +kernel
theorem dX8_throwsDoll_69 : decode cX8_throwsDoll 69 = .ok (.iconst 1, 1) := by decide +kernel
theorem dX8_throwsDoll_70 : decode cX8_throwsDoll 70 = .ok (.invokevirtual 153, 3) := by decide +kernel
theorem dX8_throwsDoll_73 : decode cX8_throwsDoll 73 = .ok (.ireturn, 1) := by decide +kernel
theorem dX8_sells_0 : decode cX8_sells 0 = .ok (.aload_n 0, 1) := by decide +kernel
theorem dX8_sells_1 : decode cX8_sells 1 = .ok (.getfield 62, 3) := by decide +kernel
theorem dX8_sells_4 : decode cX8_sells 4 = .ok (.iload_n 1, 1) := by decide +kernel
theorem dX8_sells_5 : decode cX8_sells 5 = .ok (.iload_n 2, 1) := by decide +kernel
theorem dX8_sells_6 : decode cX8_sells 6 = .ok (.invokevirtual 132, 3) := by decide +kernel
theorem dX8_sells_9 : decode cX8_sells 9 = .ok (.ifCond .eq 14, 3) := by decide +kernel
theorem dX8_sells_12 : decode cX8_sells 12 = .ok (.iload_n 3, 1) := by decide +kernel
theorem dX8_sells_13 : decode cX8_sells 13 = .ok (.iconst 1, 1) := by decide +kernel
theorem dX8_sells_14 : decode cX8_sells 14 = .ok (.if_icmp .lt 9, 3) := by decide +kernel
theorem dX8_sells_17 : decode cX8_sells 17 = .ok (.iload_n 3, 1) := by decide +kernel
theorem dX8_sells_18 : decode cX8_sells 18 = .ok (.bipush 99, 2) := by decide +kernel
theorem dX8_sells_20 : decode cX8_sells 20 = .ok (.if_icmp .le 5, 3) := by decide +kernel
theorem dX8_sells_23 : decode cX8_sells 23 = .ok (.iconst (-1), 1) := by decide +kernel
theorem dX8_sells_24 : decode cX8_sells 24 = .ok (.ireturn, 1) := by decide +kernel
theorem dX8_sells_25 : decode cX8_sells 25 = .ok (.aload_n 0, 1) := by decide +kernel
theorem dX8_sells_26 : decode cX8_sells 26 = .ok (.getfield 19, 3) := by decide +kernel
theorem dX8_sells_29 : decode cX8_sells 29 = .ok (.getfield 104, 3) := by decide +kernel
theorem dX8_sells_32 : decode cX8_sells 32 = .ok (.astore 4, 2) := by decide +kernel
theorem dX8_sells_34 : decode cX8_sells 34 = .ok (.aload 4, 2) := by decide +kernel
theorem dX8_sells_36 : decode cX8_sells 36 = .ok (.getfield 108, 3) := by decide +kernel
theorem dX8_sells_39 : decode cX8_sells 39 = .ok (.iload_n 1, 1) := by decide +kernel
theorem dX8_sells_40 : decode cX8_sells 40 = .ok (.iaload, 1) := by decide +kernel
theorem dX8_sells_41 : decode cX8_sells 41 = .ok (.iload_n 3, 1) := by decide +kernel
theorem dX8_sells_42 : decode cX8_sells 42 = .ok (.if_icmp .ge 6, 3) := by decide +kernel
theorem dX8_sells_45 : decode cX8_sells 45 = .ok (.bipush (-2), 2) := by decide +kernel
theorem dX8_sells_47 : decode cX8_sells 47 = .ok (.ireturn, 1) := by decide +kernel
theorem dX8_sells_48 : decode cX8_sells 48 = .ok (.aload 4, 2) := by decide +kernel
theorem dX8_sells_50 : decode cX8_sells 50 = .ok (.getfield 108, 3) := by decide +kernel
theorem dX8_sells_53 : decode cX8_sells 53 = .ok (.iload_n 2, 1) := by decide +kernel
theorem dX8_sells_54 : decode cX8_sells 54 = .ok (.iaload, 1) := by decide +kernel
theorem dX8_sells_55 : decode cX8_sells 55 = .ok (.iload_n 3, 1) := by decide +kernel
theorem dX8_sells_56 : decode cX8_sells 56 = .ok (.iadd, 1) := by decide +kernel
theorem dX8_sells_57 : decode cX8_sells 57 = .ok (.sipush 999, 3) := by decide +kernel
theorem dX8_sells_60 : decode cX8_sells 60 = .ok (.if_icmp .le 6, 3) := by decide +kernel
theorem dX8_sells_63 : decode cX8_sells 63 = .ok (.bipush (-3), 2) := by decide +kernel
theorem dX8_sells_65 : decode cX8_sells 65 = .ok (.ireturn, 1) := by decide +kernel
theorem dX8_sells_66 : decode cX8_sells 66 = .ok (.aload_n 0, 1) := by decide +kernel
theorem dX8_sells_67 : decode cX8_sells 67 = .ok (.getfield 19, 3) := by decide +kernel
theorem dX8_sells_70 : decode cX8_sells 70 = .ok (.invokevirtual 143, 3) := by decide +kernel
theorem dX8_sells_73 : decode cX8_sells 73 = .ok (.aload 4, 2) := by decide +kernel
theorem dX8_sells_75 : decode cX8_sells 75 = .ok (.getfield 108, 3) := by decide +kernel
theorem dX8_sells_78 : decode cX8_sells 78 = .ok (.iload_n 2, 1) := by decide +kernel
theorem dX8_sells_79 : decode cX8_sells 79 = .ok (.dup2, 1) := by decide +kernel
theorem dX8_sells_80 : decode cX8_sells 80 = .ok (.iaload, 1) := by decide +kernel
theorem dX8_sells_81 : decode cX8_sells 81 = .ok (.iload_n 3, 1) := by decide +kernel
theorem dX8_sells_82 : decode cX8_sells 82 = .ok (.iadd, 1) := by decide +kernel
theorem dX8_sells_83 : decode cX8_sells 83 = .ok (.iastore, 1) := by decide +kernel
theorem dX8_sells_84 : decode cX8_sells 84 = .ok (.aload 4, 2) := by decide +kernel
theorem dX8_sells_86 : decode cX8_sells 86 = .ok (.getfield 136, 3) := by decide +kernel
theorem dX8_sells_89 : decode cX8_sells 89 = .ok (.iload_n 1, 1) := by decide +kernel
theorem dX8_sells_90 : decode cX8_sells 90 = .ok (.iload_n 2, 1) := by decide +kernel
theorem dX8_sells_91 : decode cX8_sells 91 = .ok (.invokestatic 139, 3) := by decide +kernel
theorem dX8_sells_94 : decode cX8_sells 94 = .ok (.dup2, 1) := by decide +kernel
theorem dX8_sells_95 : decode cX8_sells 95 = .ok (.iaload, 1) := by decide +kernel
theorem dX8_sells_96 : decode cX8_sells 96 = .ok (.iload_n 3, 1) := by decide +kernel
theorem dX8_sells_97 : decode cX8_sells 97 = .ok (.iadd, 1) := by decide +kernel
theorem dX8_sells_98 : decode cX8_sells 98 = .ok (.iastore, 1) := by decide +kernel
theorem dX8_sells_99 : decode cX8_sells 99 = .ok (.aload 4, 2) := by decide +kernel
theorem dX8_sells_101 : decode cX8_sells 101 = .ok (.iload_n 1, 1) := by decide +kernel
theorem dX8_sells_102 : decode cX8_sells 102 = .ok (.iload_n 3, 1) := by decide +kernel
theorem dX8_sells_103 : decode cX8_sells 103 = .ok (.invokevirtual 153, 3) := by decide +kernel
theorem dX8_sells_106 : decode cX8_sells 106 = .ok (.ireturn, 1) := by decide +kernel
theorem dX8_redeems_0 : decode cX8_redeems 0 = .ok (.aload_n 0, 1) := by decide +kernel
theorem dX8_redeems_1 : decode cX8_redeems 1 = .ok (.getfield 62, 3) := by decide +kernel
theorem dX8_redeems_4 : decode cX8_redeems 4 = .ok (.iload_n 1, 1) := by decide +kernel
theorem dX8_redeems_5 : decode cX8_redeems 5 = .ok (.invokevirtual 88, 3) := by decide +kernel
theorem dX8_redeems_8 : decode cX8_redeems 8 = .ok (.ifCond .ne 5, 3) := by decide +kernel
theorem dX8_redeems_11 : decode cX8_redeems 11 = .ok (.iconst (-1), 1) := by decide +kernel
theorem dX8_redeems_12 : decode cX8_redeems 12 = .ok (.ireturn, 1) := by decide +kernel
theorem dX8_redeems_13 : decode cX8_redeems 13 = .ok (.aload_n 0, 1) := by decide +kernel
theorem dX8_redeems_14 : decode cX8_redeems 14 = .ok (.getfield 19, 3) := by decide +kernel
theorem dX8_redeems_17 : decode cX8_redeems 17 = .ok (.getfield 104, 3) := by decide +kernel
theorem dX8_redeems_20 : decode cX8_redeems 20 = .ok (.getfield 108, 3) := by decide +kernel
theorem dX8_redeems_23 : decode cX8_redeems 23 = .ok (.iload_n 1, 1) := by decide +kernel
theorem dX8_redeems_24 : decode cX8_redeems 24 = .ok (.iaload, 1) := by decide +kernel
theorem dX8_redeems_25 : decode cX8_redeems 25 = .ok (.istore_n 2, 1) := by decide +kernel
theorem dX8_redeems_26 : decode cX8_redeems 26 = .ok (.iload_n 2, 1) := by decide +kernel
theorem dX8_redeems_27 : decode cX8_redeems 27 = .ok (.ifCond .ne 6, 3) := by decide +kernel
theorem dX8_redeems_30 : decode cX8_redeems 30 = .ok (.bipush (-2), 2) := by decide +kernel
theorem dX8_redeems_32 : decode cX8_redeems 32 = .ok (.ireturn, 1) := by decide +kernel
theorem dX8_redeems_33 : decode cX8_redeems 33 = .ok (.aload_n 0, 1) := by decide +kernel
theorem dX8_redeems_34 : decode cX8_redeems 34 = .ok (.getfield 19, 3) := by decide +kernel
theorem dX8_redeems_37 : decode cX8_redeems 37 = .ok (.invokevirtual 143, 3) := by decide +kernel
theorem dX8_redeems_40 : decode cX8_redeems 40 = .ok (.aload_n 0, 1) := by decide +kernel
theorem dX8_redeems_41 : decode cX8_redeems 41 = .ok (.getfield 19, 3) := by decide +kernel
theorem dX8_redeems_44 : decode cX8_redeems 44 = .ok (.getfield 104, 3) := by decide +kernel
theorem dX8_redeems_47 : decode cX8_redeems 47 = .ok (.getfield 108, 3) := by decide +kernel
theorem dX8_redeems_50 : decode cX8_redeems 50 = .ok (.iload_n 1, 1) := by decide +kernel
theorem dX8_redeems_51 : decode cX8_redeems 51 = .ok (.iconst 0, 1) := by decide +kernel
theorem dX8_redeems_52 : decode cX8_redeems 52 = .ok (.iastore, 1) := by decide +kernel
theorem dX8_redeems_53 : decode cX8_redeems 53 = .ok (.iload_n 2, 1) := by decide +kernel
theorem dX8_redeems_54 : decode cX8_redeems 54 = .ok (.ireturn, 1) := by decide +kernel
theorem dX8_ends_0 : decode cX8_ends 0 = .ok (.aload_n 0, 1) := by decide +kernel
theorem dX8_ends_1 : decode cX8_ends 1 = .ok (.getfield 19, 3) := by decide +kernel
theorem dX8_ends_4 : decode cX8_ends 4 = .ok (.getfield 104, 3) := by decide +kernel
theorem dX8_ends_7 : decode cX8_ends 7 = .ok (.getfield 162, 3) := by decide +kernel
theorem dX8_ends_10 : decode cX8_ends 10 = .ok (.bipush 99, 2) := by decide +kernel
theorem dX8_ends_12 : decode cX8_ends 12 = .ok (.if_icmp .lt 6, 3) := by decide +kernel
theorem dX8_ends_15 : decode cX8_ends 15 = .ok (.bipush (-2), 2) := by decide +kernel
theorem dX8_ends_17 : decode cX8_ends 17 = .ok (.ireturn, 1) := by decide +kernel
theorem dX8_ends_18 : decode cX8_ends 18 = .ok (.aload_n 0, 1) := by decide +kernel
theorem dX8_ends_19 : decode cX8_ends 19 = .ok (.getfield 19, 3) := by decide +kernel
theorem dX8_ends_22 : decode cX8_ends 22 = .ok (.invokevirtual 143, 3) := by decide +kernel
theorem dX8_ends_25 : decode cX8_ends 25 = .ok (.aload_n 0, 1) := by decide +kernel
theorem dX8_ends_26 : decode cX8_ends 26 = .ok (.getfield 19, 3) := by decide +kernel
theorem dX8_ends_29 : decode cX8_ends 29 = .ok (.getfield 104, 3) := by decide +kernel
theorem dX8_ends_32 : decode cX8_ends 32 = .ok (.aload_n 0, 1) := by decide +kernel
theorem dX8_ends_33 : decode cX8_ends 33 = .ok (.getfield 62, 3) := by decide +kernel
theorem dX8_ends_36 : decode cX8_ends 36 = .ok (.invokevirtual 165, 3) := by decide +kernel
theorem dX8_ends_39 : decode cX8_ends 39 = .ok (.aload_n 0, 1) := by decide +kernel
theorem dX8_ends_40 : decode cX8_ends 40 = .ok (.getfield 19, 3) := by decide +kernel
theorem dX8_ends_43 : decode cX8_ends 43 = .ok (.getfield 104, 3) := by decide +kernel
theorem dX8_ends_46 : decode cX8_ends 46 = .ok (.aload_n 0, 1) := by decide +kernel
theorem dX8_ends_47 : decode cX8_ends 47 = .ok (.getfield 62, 3) := by decide +kernel
theorem dX8_ends_50 : decode cX8_ends 50 = .ok (.getfield 168, 3) := by decide +kernel
theorem dX8_ends_53 : decode cX8_ends 53 = .ok (.invokevirtual 171, 3) := by decide +kernel
theorem dX8_ends_56 : decode cX8_ends 56 = .ok (.ireturn, 1) := by decide +kernel
theorem dX8_undo_0 : decode cX8_undo 0 = .ok (.aload_n 0, 1) := by decide +kernel
theorem dX8_undo_1 : decode cX8_undo 1 = .ok (.getfield 19, 3) := by decide +kernel
theorem dX8_undo_4 : decode cX8_undo 4 = .ok (.invokevirtual 174, 3) := by decide +kernel
theorem dX8_undo_7 : decode cX8_undo 7 = .ok (.ifCond .eq 13, 3) := by decide +kernel
theorem dX8_undo_10 : decode cX8_undo 10 = .ok (.aload_n 0, 1) := by decide +kernel
theorem dX8_undo_11 : decode cX8_undo 11 = .ok (.getfield 19, 3) := by decide +kernel
theorem dX8_undo_14 : decode cX8_undo 14 = .ok (.getfield 178, 3) := by decide +kernel
theorem dX8_undo_17 : decode cX8_undo 17 = .ok (.goto 5, 3) := by decide +kernel
theorem dX8_undo_20 : decode cX8_undo 20 = .ok (.bipush (-2), 2) := by decide +kernel
theorem dX8_undo_22 : decode cX8_undo 22 = .ok (.ireturn, 1) := by decide +kernel
theorem dX8_now_0 : decode cX8_now 0 = .ok (.iload_n 1, 1) := by decide +kernel
theorem dX8_now_1 : decode cX8_now 1 = .ok (.tableswitch 114 0 5 #[39, 50, 68, 73, 84, 89], 39) := by decide +kernel
theorem dX8_now_40 : decode cX8_now 40 = .ok (.aload_n 0, 1) := by decide +kernel
theorem dX8_now_41 : decode cX8_now 41 = .ok (.getfield 19, 3) := by decide +kernel
theorem dX8_now_44 : decode cX8_now 44 = .ok (.getfield 104, 3) := by decide +kernel
theorem dX8_now_47 : decode cX8_now 47 = .ok (.getfield 162, 3) := by decide +kernel
theorem dX8_now_50 : decode cX8_now 50 = .ok (.ireturn, 1) := by decide +kernel
theorem dX8_now_51 : decode cX8_now 51 = .ok (.aload_n 0, 1) := by decide +kernel
theorem dX8_now_52 : decode cX8_now 52 = .ok (.getfield 19, 3) := by decide +kernel
theorem dX8_now_55 : decode cX8_now 55 = .ok (.getfield 104, 3) := by decide +kernel
theorem dX8_now_58 : decode cX8_now 58 = .ok (.aload_n 0, 1) := by decide +kernel
theorem dX8_now_59 : decode cX8_now 59 = .ok (.getfield 62, 3) := by decide +kernel
theorem dX8_now_62 : decode cX8_now 62 = .ok (.getfield 168, 3) := by decide +kernel
theorem dX8_now_65 : decode cX8_now 65 = .ok (.invokevirtual 171, 3) := by decide +kernel
theorem dX8_now_68 : decode cX8_now 68 = .ok (.ireturn, 1) := by decide +kernel
theorem dX8_now_69 : decode cX8_now 69 = .ok (.aload_n 0, 1) := by decide +kernel
theorem dX8_now_70 : decode cX8_now 70 = .ok (.invokevirtual 181, 3) := by decide +kernel
theorem dX8_now_73 : decode cX8_now 73 = .ok (.ireturn, 1) := by decide +kernel
theorem dX8_now_74 : decode cX8_now 74 = .ok (.aload_n 0, 1) := by decide +kernel
theorem dX8_now_75 : decode cX8_now 75 = .ok (.getfield 19, 3) := by decide +kernel
theorem dX8_now_78 : decode cX8_now 78 = .ok (.getfield 104, 3) := by decide +kernel
theorem dX8_now_81 : decode cX8_now 81 = .ok (.getfield 185, 3) := by decide +kernel
theorem dX8_now_84 : decode cX8_now 84 = .ok (.ireturn, 1) := by decide +kernel
theorem dX8_now_85 : decode cX8_now 85 = .ok (.aload_n 0, 1) := by decide +kernel
theorem dX8_now_86 : decode cX8_now 86 = .ok (.invokevirtual 188, 3) := by decide +kernel
theorem dX8_now_89 : decode cX8_now 89 = .ok (.ireturn, 1) := by decide +kernel
theorem dX8_now_90 : decode cX8_now 90 = .ok (.aload_n 0, 1) := by decide +kernel
theorem dX8_now_91 : decode cX8_now 91 = .ok (.getfield 48, 3) := by decide +kernel
theorem dX8_now_94 : decode cX8_now 94 = .ok (.aload_n 0, 1) := by decide +kernel
theorem dX8_now_95 : decode cX8_now 95 = .ok (.getfield 19, 3) := by decide +kernel
theorem dX8_now_98 : decode cX8_now 98 = .ok (.getfield 104, 3) := by decide +kernel
theorem dX8_now_101 : decode cX8_now 101 = .ok (.getfield 136, 3) := by decide +kernel
theorem dX8_now_104 : decode cX8_now 104 = .ok (.aload_n 0, 1) := by decide +kernel
theorem dX8_now_105 : decode cX8_now 105 = .ok (.getfield 62, 3) := by decide +kernel
theorem dX8_now_108 : decode cX8_now 108 = .ok (.getfield 168, 3) := by decide +kernel
theorem dX8_now_111 : decode cX8_now 111 = .ok (.invokevirtual 191, 3) := by decide +kernel
theorem dX8_now_114 : decode cX8_now 114 = .ok (.ireturn, 1) := by decide +kernel
theorem dX8_now_115 : decode cX8_now 115 = .ok (.iconst (-1), 1) := by decide +kernel
theorem dX8_now_116 : decode cX8_now 116 = .ok (.ireturn, 1) := by decide +kernel
theorem dX8_surest_0 : decode cX8_surest 0 = .ok (.iload_n 1, 1) := by decide +kernel
theorem dX8_surest_1 : decode cX8_surest 1 = .ok (.invokestatic 195, 3) := by decide +kernel
theorem dX8_surest_4 : decode cX8_surest 4 = .ok (.ifCond .eq 19, 3) := by decide +kernel
theorem dX8_surest_7 : decode cX8_surest 7 = .ok (.iload_n 2, 1) := by decide +kernel
theorem dX8_surest_8 : decode cX8_surest 8 = .ok (.invokestatic 195, 3) := by decide +kernel
theorem dX8_surest_11 : decode cX8_surest 11 = .ok (.ifCond .eq 12, 3) := by decide +kernel
theorem dX8_surest_14 : decode cX8_surest 14 = .ok (.iload_n 3, 1) := by decide +kernel
theorem dX8_surest_15 : decode cX8_surest 15 = .ok (.ifCond .lt 8, 3) := by decide +kernel
theorem dX8_surest_18 : decode cX8_surest 18 = .ok (.iload_n 3, 1) := by decide +kernel
theorem dX8_surest_19 : decode cX8_surest 19 = .ok (.iconst 2, 1) := by decide +kernel
theorem dX8_surest_20 : decode cX8_surest 20 = .ok (.if_icmp .le 5, 3) := by decide +kernel
theorem dX8_surest_23 : decode cX8_surest 23 = .ok (.iconst (-1), 1) := by decide +kernel
theorem dX8_surest_24 : decode cX8_surest 24 = .ok (.ireturn, 1) := by decide +kernel
theorem dX8_surest_25 : decode cX8_surest 25 = .ok (.aload_n 0, 1) := by decide +kernel
theorem dX8_surest_26 : decode cX8_surest 26 = .ok (.getfield 34, 3) := by decide +kernel
theorem dX8_surest_29 : decode cX8_surest 29 = .ok (.aload_n 0, 1) := by decide +kernel
theorem dX8_surest_30 : decode cX8_surest 30 = .ok (.getfield 62, 3) := by decide +kernel
theorem dX8_surest_33 : decode cX8_surest 33 = .ok (.aload_n 0, 1) := by decide +kernel
theorem dX8_surest_34 : decode cX8_surest 34 = .ok (.getfield 19, 3) := by decide +kernel
theorem dX8_surest_37 : decode cX8_surest 37 = .ok (.getfield 104, 3) := by decide +kernel
theorem dX8_surest_40 : decode cX8_surest 40 = .ok (.iload_n 2, 1) := by decide +kernel
theorem dX8_surest_41 : decode cX8_surest 41 = .ok (.bipush (-9), 2) := by decide +kernel
theorem dX8_surest_43 : decode cX8_surest 43 = .ok (.invokevirtual 198, 3) := by decide +kernel
theorem dX8_surest_46 : decode cX8_surest 46 = .ok (.iload_n 3, 1) := by decide +kernel
theorem dX8_surest_47 : decode cX8_surest 47 = .ok (.lookupswitch 43 #[(0, 25), (1, 34)], 25) := by decide +kernel
theorem dX8_surest_72 : decode cX8_surest 72 = .ok (.aload_n 0, 1) := by decide +kernel
theorem dX8_surest_73 : decode cX8_surest 73 = .ok (.getfield 34, 3) := by decide +kernel
theorem dX8_surest_76 : decode cX8_surest 76 = .ok (.iload_n 1, 1) := by decide +kernel
theorem dX8_surest_77 : decode cX8_surest 77 = .ok (.invokevirtual 202, 3) := by decide +kernel
theorem dX8_surest_80 : decode cX8_surest 80 = .ok (.ireturn, 1) := by decide +kernel
theorem dX8_surest_81 : decode cX8_surest 81 = .ok (.aload_n 0, 1) := by decide +kernel
theorem dX8_surest_82 : decode cX8_surest 82 = .ok (.getfield 34, 3) := by decide +kernel
theorem dX8_surest_85 : decode cX8_surest 85 = .ok (.iload_n 1, 1) := by decide +kernel
theorem dX8_surest_86 : decode cX8_surest 86 = .ok (.invokevirtual 205, 3) := by decide +kernel
theorem dX8_surest_89 : decode cX8_surest 89 = .ok (.ireturn, 1) := by decide +kernel
theorem dX8_surest_90 : decode cX8_surest 90 = .ok (.aload_n 0, 1) := by decide +kernel
theorem dX8_surest_91 : decode cX8_surest 91 = .ok (.getfield 34, 3) := by decide +kernel
theorem dX8_surest_94 : decode cX8_surest 94 = .ok (.aload_n 0, 1) := by decide +kernel
theorem dX8_surest_95 : decode cX8_surest 95 = .ok (.getfield 62, 3) := by decide +kernel
theorem dX8_surest_98 : decode cX8_surest 98 = .ok (.aload_n 0, 1) := by decide +kernel
theorem dX8_surest_99 : decode cX8_surest 99 = .ok (.getfield 19, 3) := by decide +kernel
theorem dX8_surest_102 : decode cX8_surest 102 = .ok (.getfield 104, 3) := by decide +kernel
theorem dX8_surest_105 : decode cX8_surest 105 = .ok (.iload_n 1, 1) := by decide +kernel
theorem dX8_surest_106 : decode cX8_surest 106 = .ok (.invokevirtual 208, 3) := by decide +kernel
theorem dX8_surest_109 : decode cX8_surest 109 = .ok (.ireturn, 1) := by decide +kernel
theorem dX8_bars_0 : decode cX8_bars 0 = .ok (.iload_n 1, 1) := by decide +kernel
theorem dX8_bars_1 : decode cX8_bars 1 = .ok (.invokestatic 195, 3) := by decide +kernel
theorem dX8_bars_4 : decode cX8_bars 4 = .ok (.ifCond .eq 10, 3) := by decide +kernel
theorem dX8_bars_7 : decode cX8_bars 7 = .ok (.iload_n 2, 1) := by decide +kernel
theorem dX8_bars_8 : decode cX8_bars 8 = .ok (.invokestatic 195, 3) := by decide +kernel
theorem dX8_bars_11 : decode cX8_bars 11 = .ok (.ifCond .ne 5, 3) := by decide +kernel
theorem dX8_bars_14 : decode cX8_bars 14 = .ok (.iconst (-1), 1) := by decide +kernel
theorem dX8_bars_15 : decode cX8_bars 15 = .ok (.ireturn, 1) := by decide +kernel
theorem dX8_bars_16 : decode cX8_bars 16 = .ok (.aload_n 0, 1) := by decide +kernel
theorem dX8_bars_17 : decode cX8_bars 17 = .ok (.getfield 34, 3) := by decide +kernel
theorem dX8_bars_20 : decode cX8_bars 20 = .ok (.aload_n 0, 1) := by decide +kernel
theorem dX8_bars_21 : decode cX8_bars 21 = .ok (.getfield 62, 3) := by decide +kernel
theorem dX8_bars_24 : decode cX8_bars 24 = .ok (.aload_n 0, 1) := by decide +kernel
theorem dX8_bars_25 : decode cX8_bars 25 = .ok (.getfield 19, 3) := by decide +kernel
theorem dX8_bars_28 : decode cX8_bars 28 = .ok (.getfield 104, 3) := by decide +kernel
theorem dX8_bars_31 : decode cX8_bars 31 = .ok (.iload_n 1, 1) := by decide +kernel
theorem dX8_bars_32 : decode cX8_bars 32 = .ok (.iload_n 2, 1) := by decide +kernel
theorem dX8_bars_33 : decode cX8_bars 33 = .ok (.invokevirtual 212, 3) := by decide +kernel
theorem dX8_bars_36 : decode cX8_bars 36 = .ok (.ireturn, 1) := by decide +kernel
theorem dX8_paid_0 : decode cX8_paid 0 = .ok (.aload_n 0, 1) := by decide +kernel
theorem dX8_paid_1 : decode cX8_paid 1 = .ok (.getfield 62, 3) := by decide +kernel
theorem dX8_paid_4 : decode cX8_paid 4 = .ok (.iload_n 1, 1) := by decide +kernel
theorem dX8_paid_5 : decode cX8_paid 5 = .ok (.invokevirtual 88, 3) := by decide +kernel
theorem dX8_paid_8 : decode cX8_paid 8 = .ok (.ifCond .eq 12, 3) := by decide +kernel
theorem dX8_paid_11 : decode cX8_paid 11 = .ok (.iload_n 2, 1) := by decide +kernel
theorem dX8_paid_12 : decode cX8_paid 12 = .ok (.ifCond .lt 8, 3) := by decide +kernel
theorem dX8_paid_15 : decode cX8_paid 15 = .ok (.iload_n 2, 1) := by decide +kernel
theorem dX8_paid_16 : decode cX8_paid 16 = .ok (.iconst 1, 1) := by decide +kernel
theorem dX8_paid_17 : decode cX8_paid 17 = .ok (.if_icmp .le 5, 3) := by decide +kernel
theorem dX8_paid_20 : decode cX8_paid 20 = .ok (.iconst (-1), 1) := by decide +kernel
theorem dX8_paid_21 : decode cX8_paid 21 = .ok (.ireturn, 1) := by decide +kernel
theorem dX8_paid_22 : decode cX8_paid 22 = .ok (.aload_n 0, 1) := by decide +kernel
theorem dX8_paid_23 : decode cX8_paid 23 = .ok (.getfield 41, 3) := by decide +kernel
theorem dX8_paid_26 : decode cX8_paid 26 = .ok (.aload_n 0, 1) := by decide +kernel
theorem dX8_paid_27 : decode cX8_paid 27 = .ok (.getfield 62, 3) := by decide +kernel
theorem dX8_paid_30 : decode cX8_paid 30 = .ok (.aload_n 0, 1) := by decide +kernel
theorem dX8_paid_31 : decode cX8_paid 31 = .ok (.getfield 19, 3) := by decide +kernel
theorem dX8_paid_34 : decode cX8_paid 34 = .ok (.getfield 104, 3) := by decide +kernel
theorem dX8_paid_37 : decode cX8_paid 37 = .ok (.getfield 108, 3) := by decide +kernel
theorem dX8_paid_40 : decode cX8_paid 40 = .ok (.iload_n 1, 1) := by decide +kernel
theorem dX8_paid_41 : decode cX8_paid 41 = .ok (.iaload, 1) := by decide +kernel
theorem dX8_paid_42 : decode cX8_paid 42 = .ok (.iload_n 2, 1) := by decide +kernel
theorem dX8_paid_43 : decode cX8_paid 43 = .ok (.ifCond .ne 7, 3) := by decide +kernel
theorem dX8_paid_46 : decode cX8_paid 46 = .ok (.iconst 1, 1) := by decide +kernel
theorem dX8_paid_47 : decode cX8_paid 47 = .ok (.goto 4, 3) := by decide +kernel
theorem dX8_paid_50 : decode cX8_paid 50 = .ok (.iconst 0, 1) := by decide +kernel
theorem dX8_paid_51 : decode cX8_paid 51 = .ok (.invokevirtual 216, 3) := by decide +kernel
theorem dX8_paid_54 : decode cX8_paid 54 = .ok (.ireturn, 1) := by decide +kernel
theorem dX8_coins_0 : decode cX8_coins 0 = .ok (.iload_n 2, 1) := by decide +kernel
theorem dX8_coins_1 : decode cX8_coins 1 = .ok (.iconst (-1), 1) := by decide +kernel
theorem dX8_coins_2 : decode cX8_coins 2 = .ok (.if_icmp .eq 9, 3) := by decide +kernel
theorem dX8_coins_5 : decode cX8_coins 5 = .ok (.iload_n 2, 1) := by decide +kernel
theorem dX8_coins_6 : decode cX8_coins 6 = .ok (.bipush (-2), 2) := by decide +kernel
theorem dX8_coins_8 : decode cX8_coins 8 = .ok (.if_icmp .ne 7, 3) := by decide +kernel
theorem dX8_coins_11 : decode cX8_coins 11 = .ok (.iconst 1, 1) := by decide +kernel
theorem dX8_coins_12 : decode cX8_coins 12 = .ok (.goto 4, 3) := by decide +kernel
theorem dX8_coins_15 : decode cX8_coins 15 = .ok (.iconst 0, 1) := by decide +kernel
theorem dX8_coins_16 : decode cX8_coins 16 = .ok (.istore_n 3, 1) := by decide +kernel
theorem dX8_coins_17 : decode cX8_coins 17 = .ok (.iload_n 1, 1) := by decide +kernel
theorem dX8_coins_18 : decode cX8_coins 18 = .ok (.invokestatic 220, 3) := by decide +kernel
theorem dX8_coins_21 : decode cX8_coins 21 = .ok (.ifCond .eq 18, 3) := by decide +kernel
theorem dX8_coins_24 : decode cX8_coins 24 = .ok (.iload_n 3, 1) := by decide +kernel
theorem dX8_coins_25 : decode cX8_coins 25 = .ok (.ifCond .ne 16, 3) := by decide +kernel
theorem dX8_coins_28 : decode cX8_coins 28 = .ok (.aload_n 0, 1) := by decide +kernel
theorem dX8_coins_29 : decode cX8_coins 29 = .ok (.getfield 62, 3) := by decide +kernel
theorem dX8_coins_32 : decode cX8_coins 32 = .ok (.iload_n 2, 1) := by decide +kernel
theorem dX8_coins_33 : decode cX8_coins 33 = .ok (.invokevirtual 88, 3) := by decide +kernel
theorem dX8_coins_36 : decode cX8_coins 36 = .ok (.ifCond .ne 5, 3) := by decide +kernel
theorem dX8_coins_39 : decode cX8_coins 39 = .ok (.iconst (-1), 1) := by decide +kernel
theorem dX8_coins_40 : decode cX8_coins 40 = .ok (.ireturn, 1) := by decide +kernel
theorem dX8_coins_41 : decode cX8_coins 41 = .ok (.aload_n 0, 1) := by decide +kernel
theorem dX8_coins_42 : decode cX8_coins 42 = .ok (.getfield 41, 3) := by decide +kernel
theorem dX8_coins_45 : decode cX8_coins 45 = .ok (.aload_n 0, 1) := by decide +kernel
theorem dX8_coins_46 : decode cX8_coins 46 = .ok (.getfield 62, 3) := by decide +kernel
theorem dX8_coins_49 : decode cX8_coins 49 = .ok (.aload_n 0, 1) := by decide +kernel
theorem dX8_coins_50 : decode cX8_coins 50 = .ok (.getfield 19, 3) := by decide +kernel
theorem dX8_coins_53 : decode cX8_coins 53 = .ok (.getfield 104, 3) := by decide +kernel
theorem dX8_coins_56 : decode cX8_coins 56 = .ok (.iload_n 1, 1) := by decide +kernel
theorem dX8_coins_57 : decode cX8_coins 57 = .ok (.invokevirtual 223, 3) := by decide +kernel
theorem dX8_coins_60 : decode cX8_coins 60 = .ok (.iload_n 2, 1) := by decide +kernel
theorem dX8_coins_61 : decode cX8_coins 61 = .ok (.iconst (-1), 1) := by decide +kernel
theorem dX8_coins_62 : decode cX8_coins 62 = .ok (.if_icmp .ne 12, 3) := by decide +kernel
theorem dX8_coins_65 : decode cX8_coins 65 = .ok (.aload_n 0, 1) := by decide +kernel
theorem dX8_coins_66 : decode cX8_coins 66 = .ok (.getfield 41, 3) := by decide +kernel
theorem dX8_coins_69 : decode cX8_coins 69 = .ok (.iload_n 1, 1) := by decide +kernel
theorem dX8_coins_70 : decode cX8_coins 70 = .ok (.invokevirtual 227, 3) := by decide +kernel
theorem dX8_coins_73 : decode cX8_coins 73 = .ok (.ireturn, 1) := by decide +kernel
theorem dX8_coins_74 : decode cX8_coins 74 = .ok (.iload_n 2, 1) := by decide +kernel
theorem dX8_coins_75 : decode cX8_coins 75 = .ok (.bipush (-2), 2) := by decide +kernel
theorem dX8_coins_77 : decode cX8_coins 77 = .ok (.if_icmp .ne 14, 3) := by decide +kernel
theorem dX8_coins_80 : decode cX8_coins 80 = .ok (.aload_n 0, 1) := by decide +kernel
theorem dX8_coins_81 : decode cX8_coins 81 = .ok (.getfield 41, 3) := by decide +kernel
theorem dX8_coins_84 : decode cX8_coins 84 = .ok (.iload_n 1, 1) := by decide +kernel
theorem dX8_coins_85 : decode cX8_coins 85 = .ok (.invokevirtual 230, 3) := by decide +kernel
theorem dX8_coins_88 : decode cX8_coins 88 = .ok (.goto 12, 3) := by decide +kernel
theorem dX8_coins_91 : decode cX8_coins 91 = .ok (.aload_n 0, 1) := by decide +kernel
theorem dX8_coins_92 : decode cX8_coins 92 = .ok (.getfield 41, 3) := by decide +kernel
theorem dX8_coins_95 : decode cX8_coins 95 = .ok (.iload_n 2, 1) := by decide +kernel
theorem dX8_coins_96 : decode cX8_coins 96 = .ok (.iload_n 1, 1) := by decide +kernel
theorem dX8_coins_97 : decode cX8_coins 97 = .ok (.invokevirtual 233, 3) := by decide +kernel
theorem dX8_coins_100 : decode cX8_coins 100 = .ok (.ireturn, 1) := by decide +kernel
theorem dX8_free_0 : decode cX8_free 0 = .ok (.aload_n 0, 1) := by decide +kernel
theorem dX8_free_1 : decode cX8_free 1 = .ok (.getfield 62, 3) := by decide +kernel
theorem dX8_free_4 : decode cX8_free 4 = .ok (.iload_n 1, 1) := by decide +kernel
theorem dX8_free_5 : decode cX8_free 5 = .ok (.invokevirtual 88, 3) := by decide +kernel
theorem dX8_free_8 : decode cX8_free 8 = .ok (.ifCond .eq 10, 3) := by decide +kernel
theorem dX8_free_11 : decode cX8_free 11 = .ok (.iload_n 2, 1) := by decide +kernel
theorem dX8_free_12 : decode cX8_free 12 = .ok (.invokestatic 220, 3) := by decide +kernel
theorem dX8_free_15 : decode cX8_free 15 = .ok (.ifCond .ne 5, 3) := by decide +kernel
theorem dX8_free_18 : decode cX8_free 18 = .ok (.iconst (-1), 1) := by decide +kernel
theorem dX8_free_19 : decode cX8_free 19 = .ok (.ireturn, 1) := by decide +kernel
theorem dX8_free_20 : decode cX8_free 20 = .ok (.aload_n 0, 1) := by decide +kernel
theorem dX8_free_21 : decode cX8_free 21 = .ok (.getfield 19, 3) := by decide +kernel
theorem dX8_free_24 : decode cX8_free 24 = .ok (.getfield 104, 3) := by decide +kernel
theorem dX8_free_27 : decode cX8_free 27 = .ok (.getfield 108, 3) := by decide +kernel
theorem dX8_free_30 : decode cX8_free 30 = .ok (.iload_n 1, 1) := by decide +kernel
theorem dX8_free_31 : decode cX8_free 31 = .ok (.iaload, 1) := by decide +kernel
theorem dX8_free_32 : decode cX8_free 32 = .ok (.aload_n 0, 1) := by decide +kernel
theorem dX8_free_33 : decode cX8_free 33 = .ok (.getfield 62, 3) := by decide +kernel
theorem dX8_free_36 : decode cX8_free 36 = .ok (.getfield 101, 3) := by decide +kernel
theorem dX8_free_39 : decode cX8_free 39 = .ok (.iload_n 1, 1) := by decide +kernel
theorem dX8_free_40 : decode cX8_free 40 = .ok (.iaload, 1) := by decide +kernel
theorem dX8_free_41 : decode cX8_free 41 = .ok (.iload_n 2, 1) := by decide +kernel
theorem dX8_free_42 : decode cX8_free 42 = .ok (.invokestatic 236, 3) := by decide +kernel
theorem dX8_free_45 : decode cX8_free 45 = .ok (.ireturn, 1) := by decide +kernel
theorem dX8_who_0 : decode cX8_who 0 = .ok (.iload_n 1, 1) := by decide +kernel
theorem dX8_who_1 : decode cX8_who 1 = .ok (.ifCond .lt 23, 3) := by decide +kernel
theorem dX8_who_4 : decode cX8_who 4 = .ok (.iload_n 1, 1) := by decide +kernel
theorem dX8_who_5 : decode cX8_who 5 = .ok (.bipush 6, 2) := by decide +kernel
theorem dX8_who_7 : decode cX8_who 7 = .ok (.if_icmp .gt 17, 3) := by decide +kernel
theorem dX8_who_10 : decode cX8_who 10 = .ok (.iload_n 2, 1) := by decide +kernel
theorem dX8_who_11 : decode cX8_who 11 = .ok (.invokestatic 220, 3) := by decide +kernel
theorem dX8_who_14 : decode cX8_who 14 = .ok (.ifCond .eq 10, 3) := by decide +kernel
theorem dX8_who_17 : decode cX8_who 17 = .ok (.iload_n 3, 1) := by decide +kernel
theorem dX8_who_18 : decode cX8_who 18 = .ok (.invokestatic 220, 3) := by decide +kernel
theorem dX8_who_21 : decode cX8_who 21 = .ok (.ifCond .ne 5, 3) := by decide +kernel
theorem dX8_who_24 : decode cX8_who 24 = .ok (.iconst (-1), 1) := by decide +kernel
theorem dX8_who_25 : decode cX8_who 25 = .ok (.ireturn, 1) := by decide +kernel
theorem dX8_who_26 : decode cX8_who 26 = .ok (.iload 4, 2) := by decide +kernel
theorem dX8_who_28 : decode cX8_who 28 = .ok (.ifCond .lt 9, 3) := by decide +kernel
theorem dX8_who_31 : decode cX8_who 31 = .ok (.iload 4, 2) := by decide +kernel
theorem dX8_who_33 : decode cX8_who 33 = .ok (.iconst 2, 1) := by decide +kernel
theorem dX8_who_34 : decode cX8_who 34 = .ok (.if_icmp .le 5, 3) := by decide +kernel
theorem dX8_who_37 : decode cX8_who 37 = .ok (.iconst (-1), 1) := by decide +kernel
theorem dX8_who_38 : decode cX8_who 38 = .ok (.ireturn, 1) := by decide +kernel
theorem dX8_who_39 : decode cX8_who 39 = .ok (.aload_n 0, 1) := by decide +kernel
theorem dX8_who_40 : decode cX8_who 40 = .ok (.getfield 55, 3) := by decide +kernel
theorem dX8_who_43 : decode cX8_who 43 = .ok (.aload_n 0, 1) := by decide +kernel
theorem dX8_who_44 : decode cX8_who 44 = .ok (.getfield 62, 3) := by decide +kernel
theorem dX8_who_47 : decode cX8_who 47 = .ok (.iload_n 1, 1) := by decide +kernel
theorem dX8_who_48 : decode cX8_who 48 = .ok (.iload_n 2, 1) := by decide +kernel
theorem dX8_who_49 : decode cX8_who 49 = .ok (.iload_n 3, 1) := by decide +kernel
theorem dX8_who_50 : decode cX8_who 50 = .ok (.invokevirtual 240, 3) := by decide +kernel
theorem dX8_who_53 : decode cX8_who 53 = .ok (.iload 4, 2) := by decide +kernel
theorem dX8_who_55 : decode cX8_who 55 = .ok (.lookupswitch 55 #[(0, 25), (1, 33)], 25) := by decide +kernel
theorem dX8_who_80 : decode cX8_who 80 = .ok (.aload_n 0, 1) := by decide +kernel
theorem dX8_who_81 : decode cX8_who 81 = .ok (.getfield 55, 3) := by decide +kernel
theorem dX8_who_84 : decode cX8_who 84 = .ok (.getfield 244, 3) := by decide +kernel
theorem dX8_who_87 : decode cX8_who 87 = .ok (.ireturn, 1) := by decide +kernel
theorem dX8_who_88 : decode cX8_who 88 = .ok (.aload_n 0, 1) := by decide +kernel
theorem dX8_who_89 : decode cX8_who 89 = .ok (.getfield 55, 3) := by decide +kernel
theorem dX8_who_92 : decode cX8_who 92 = .ok (.getfield 244, 3) := by decide +kernel
theorem dX8_who_95 : decode cX8_who 95 = .ok (.ifCond .ne 7, 3) := by decide +kernel
theorem dX8_who_98 : decode cX8_who 98 = .ok (.iconst 0, 1) := by decide +kernel
theorem dX8_who_99 : decode cX8_who 99 = .ok (.goto 10, 3) := by decide +kernel
theorem dX8_who_102 : decode cX8_who 102 = .ok (.aload_n 0, 1) := by decide +kernel
theorem dX8_who_103 : decode cX8_who 103 = .ok (.getfield 55, 3) := by decide +kernel
theorem dX8_who_106 : decode cX8_who 106 = .ok (.getfield 247, 3) := by decide +kernel
theorem dX8_who_109 : decode cX8_who 109 = .ok (.ireturn, 1) := by decide +kernel
theorem dX8_who_110 : decode cX8_who 110 = .ok (.aload_n 0, 1) := by decide +kernel
theorem dX8_who_111 : decode cX8_who 111 = .ok (.getfield 55, 3) := by decide +kernel
theorem dX8_who_114 : decode cX8_who 114 = .ok (.getfield 250, 3) := by decide +kernel
theorem dX8_who_117 : decode cX8_who 117 = .ok (.ireturn, 1) := by decide +kernel
theorem dX8_odds_0 : decode cX8_odds 0 = .ok (.iload_n 1, 1) := by decide +kernel
theorem dX8_odds_1 : decode cX8_odds 1 = .ok (.invokestatic 220, 3) := by decide +kernel
theorem dX8_odds_4 : decode cX8_odds 4 = .ok (.ifCond .eq 12, 3) := by decide +kernel
theorem dX8_odds_7 : decode cX8_odds 7 = .ok (.iload_n 2, 1) := by decide +kernel
theorem dX8_odds_8 : decode cX8_odds 8 = .ok (.ifCond .lt 8, 3) := by decide +kernel
theorem dX8_odds_11 : decode cX8_odds 11 = .ok (.iload_n 2, 1) := by decide +kernel
theorem dX8_odds_12 : decode cX8_odds 12 = .ok (.iconst 1, 1) := by decide +kernel
theorem dX8_odds_13 : decode cX8_odds 13 = .ok (.if_icmp .le 5, 3) := by decide +kernel
theorem dX8_odds_16 : decode cX8_odds 16 = .ok (.iconst (-1), 1) := by decide +kernel
theorem dX8_odds_17 : decode cX8_odds 17 = .ok (.ireturn, 1) := by decide +kernel
theorem dX8_odds_18 : decode cX8_odds 18 = .ok (.aload_n 0, 1) := by decide +kernel
theorem dX8_odds_19 : decode cX8_odds 19 = .ok (.getfield 55, 3) := by decide +kernel
theorem dX8_odds_22 : decode cX8_odds 22 = .ok (.aload_n 0, 1) := by decide +kernel
theorem dX8_odds_23 : decode cX8_odds 23 = .ok (.getfield 62, 3) := by decide +kernel
theorem dX8_odds_26 : decode cX8_odds 26 = .ok (.iload_n 1, 1) := by decide +kernel
theorem dX8_odds_27 : decode cX8_odds 27 = .ok (.iload_n 2, 1) := by decide +kernel
theorem dX8_odds_28 : decode cX8_odds 28 = .ok (.ifCond .ne 7, 3) := by decide +kernel
theorem dX8_odds_31 : decode cX8_odds 31 = .ok (.iconst 1, 1) := by decide +kernel
theorem dX8_odds_32 : decode cX8_odds 32 = .ok (.goto 4, 3) := by decide +kernel
theorem dX8_odds_35 : decode cX8_odds 35 = .ok (.iconst 0, 1) := by decide +kernel
theorem dX8_odds_36 : decode cX8_odds 36 = .ok (.invokevirtual 253, 3) := by decide +kernel
theorem dX8_odds_39 : decode cX8_odds 39 = .ok (.ireturn, 1) := by decide +kernel
theorem dX8_mark_0 : decode cX8_mark 0 = .ok (.aload_n 0, 1) := by decide +kernel
theorem dX8_mark_1 : decode cX8_mark 1 = .ok (.getfield 62, 3) := by decide +kernel
theorem dX8_mark_4 : decode cX8_mark 4 = .ok (.iload_n 2, 1) := by decide +kernel
theorem dX8_mark_5 : decode cX8_mark 5 = .ok (.invokevirtual 88, 3) := by decide +kernel
theorem dX8_mark_8 : decode cX8_mark 8 = .ok (.ifCond .ne 7, 3) := by decide +kernel
theorem dX8_mark_11 : decode cX8_mark 11 = .ok (.ldc_w 256, 3) := by decide +kernel
theorem dX8_mark_14 : decode cX8_mark 14 = .ok (.ireturn, 1) := by decide +kernel
theorem dX8_mark_15 : decode cX8_mark 15 = .ok (.iload_n 1, 1) := by decide +kernel
theorem dX8_mark_16 : decode cX8_mark 16 = .ok (.tableswitch 76 0 5 #[40, 46, 52, 58, 64, 70], 40) := by decide +kernel
theorem dX8_mark_56 : decode cX8_mark 56 = .ok (.aload_n 0, 1) := by decide +kernel
theorem dX8_mark_57 : decode cX8_mark 57 = .ok (.iload_n 2, 1) := by decide +kernel
theorem dX8_mark_58 : decode cX8_mark 58 = .ok (.invokevirtual 257, 3) := by decide +kernel
theorem dX8_mark_61 : decode cX8_mark 61 = .ok (.ireturn, 1) := by decide +kernel
theorem dX8_mark_62 : decode cX8_mark 62 = .ok (.aload_n 0, 1) := by decide +kernel
theorem dX8_mark_63 : decode cX8_mark 63 = .ok (.iload_n 2, 1) := by decide +kernel
theorem dX8_mark_64 : decode cX8_mark 64 = .ok (.invokevirtual 260, 3) := by decide +kernel
theorem dX8_mark_67 : decode cX8_mark 67 = .ok (.ireturn, 1) := by decide +kernel
theorem dX8_mark_68 : decode cX8_mark 68 = .ok (.aload_n 0, 1) := by decide +kernel
theorem dX8_mark_69 : decode cX8_mark 69 = .ok (.iload_n 2, 1) := by decide +kernel
theorem dX8_mark_70 : decode cX8_mark 70 = .ok (.invokevirtual 263, 3) := by decide +kernel
theorem dX8_mark_73 : decode cX8_mark 73 = .ok (.ireturn, 1) := by decide +kernel
theorem dX8_mark_74 : decode cX8_mark 74 = .ok (.aload_n 0, 1) := by decide +kernel
theorem dX8_mark_75 : decode cX8_mark 75 = .ok (.iload_n 2, 1) := by decide +kernel
theorem dX8_mark_76 : decode cX8_mark 76 = .ok (.invokevirtual 266, 3) := by decide +kernel
theorem dX8_mark_79 : decode cX8_mark 79 = .ok (.ireturn, 1) := by decide +kernel
theorem dX8_mark_80 : decode cX8_mark 80 = .ok (.aload_n 0, 1) := by decide +kernel
theorem dX8_mark_81 : decode cX8_mark 81 = .ok (.iload_n 2, 1) := by decide +kernel
theorem dX8_mark_82 : decode cX8_mark 82 = .ok (.invokevirtual 269, 3) := by decide +kernel
theorem dX8_mark_85 : decode cX8_mark 85 = .ok (.ireturn, 1) := by decide +kernel
theorem dX8_mark_86 : decode cX8_mark 86 = .ok (.aload_n 0, 1) := by decide +kernel
theorem dX8_mark_87 : decode cX8_mark 87 = .ok (.iload_n 2, 1) := by decide +kernel
theorem dX8_mark_88 : decode cX8_mark 88 = .ok (.invokevirtual 272, 3) := by decide +kernel
theorem dX8_mark_91 : decode cX8_mark 91 = .ok (.ireturn, 1) := by decide +kernel
theorem dX8_mark_92 : decode cX8_mark 92 = .ok (.ldc_w 256, 3) := by decide +kernel
theorem dX8_mark_95 : decode cX8_mark 95 = .ok (.ireturn, 1) := by decide +kernel
theorem dX8_keep_0 : decode cX8_keep 0 = .ok (.iload_n 1, 1) := by decide +kernel
theorem dX8_keep_1 : decode cX8_keep 1 = .ok (.invokestatic 275, 3) := by decide +kernel
theorem dX8_keep_4 : decode cX8_keep 4 = .ok (.ifCond .ne 5, 3) := by decide +kernel
theorem dX8_keep_7 : decode cX8_keep 7 = .ok (.iconst (-1), 1) := by decide +kernel
theorem dX8_keep_8 : decode cX8_keep 8 = .ok (.ireturn, 1) := by decide +kernel
theorem dX8_keep_9 : decode cX8_keep 9 = .ok (.aload_n 0, 1) := by decide +kernel
theorem dX8_keep_10 : decode cX8_keep 10 = .ok (.getfield 23, 3) := by decide +kernel
theorem dX8_keep_13 : decode cX8_keep 13 = .ok (.iload_n 1, 1) := by decide +kernel
theorem dX8_keep_14 : decode cX8_keep 14 = .ok (.aaload, 1) := by decide +kernel
theorem dX8_keep_15 : decode cX8_keep 15 = .ok (.aload_n 0, 1) := by decide +kernel
theorem dX8_keep_16 : decode cX8_keep 16 = .ok (.getfield 19, 3) := by decide +kernel
theorem dX8_keep_19 : decode cX8_keep 19 = .ok (.invokevirtual 278, 3) := by decide +kernel
theorem dX8_keep_22 : decode cX8_keep 22 = .ok (.aload_n 0, 1) := by decide +kernel
theorem dX8_keep_23 : decode cX8_keep 23 = .ok (.getfield 27, 3) := by decide +kernel
theorem dX8_keep_26 : decode cX8_keep 26 = .ok (.iload_n 1, 1) := by decide +kernel
theorem dX8_keep_27 : decode cX8_keep 27 = .ok (.iconst 1, 1) := by decide +kernel
end
section
theorem dX8_keep_28 : decode cX8_keep 28 = .ok (.bastore, 1) := by decide +kernel
theorem dX8_keep_29 : decode cX8_keep 29 = .ok (.aload_n 0, 1) := by decide +kernel
theorem dX8_keep_30 : decode cX8_keep 30 = .ok (.getfield 19, 3) := by decide +kernel
theorem dX8_keep_33 : decode cX8_keep 33 = .ok (.getfield 104, 3) := by decide +kernel
theorem dX8_keep_36 : decode cX8_keep 36 = .ok (.getfield 162, 3) := by decide +kernel
theorem dX8_keep_39 : decode cX8_keep 39 = .ok (.ireturn, 1) := by decide +kernel
theorem dX8_back_0 : decode cX8_back 0 = .ok (.iload_n 1, 1) := by decide +kernel
theorem dX8_back_1 : decode cX8_back 1 = .ok (.invokestatic 275, 3) := by decide +kernel
theorem dX8_back_4 : decode cX8_back 4 = .ok (.ifCond .ne 5, 3) := by decide +kernel
theorem dX8_back_7 : decode cX8_back 7 = .ok (.iconst (-1), 1) := by decide +kernel
theorem dX8_back_8 : decode cX8_back 8 = .ok (.ireturn, 1) := by decide +kernel
theorem dX8_back_9 : decode cX8_back 9 = .ok (.aload_n 0, 1) := by decide +kernel
theorem dX8_back_10 : decode cX8_back 10 = .ok (.getfield 27, 3) := by decide +kernel
theorem dX8_back_13 : decode cX8_back 13 = .ok (.iload_n 1, 1) := by decide +kernel
theorem dX8_back_14 : decode cX8_back 14 = .ok (.baload, 1) := by decide +kernel
theorem dX8_back_15 : decode cX8_back 15 = .ok (.ifCond .ne 6, 3) := by decide +kernel
theorem dX8_back_18 : decode cX8_back 18 = .ok (.bipush (-2), 2) := by decide +kernel
theorem dX8_back_20 : decode cX8_back 20 = .ok (.ireturn, 1) := by decide +kernel
theorem dX8_back_21 : decode cX8_back 21 = .ok (.aload_n 0, 1) := by decide +kernel
theorem dX8_back_22 : decode cX8_back 22 = .ok (.getfield 19, 3) := by decide +kernel
theorem dX8_back_25 : decode cX8_back 25 = .ok (.aload_n 0, 1) := by decide +kernel
theorem dX8_back_26 : decode cX8_back 26 = .ok (.getfield 23, 3) := by decide +kernel
theorem dX8_back_29 : decode cX8_back 29 = .ok (.iload_n 1, 1) := by decide +kernel
theorem dX8_back_30 : decode cX8_back 30 = .ok (.aaload, 1) := by decide +kernel
theorem dX8_back_31 : decode cX8_back 31 = .ok (.invokevirtual 278, 3) := by decide +kernel
theorem dX8_back_34 : decode cX8_back 34 = .ok (.aload_n 0, 1) := by decide +kernel
theorem dX8_back_35 : decode cX8_back 35 = .ok (.getfield 19, 3) := by decide +kernel
theorem dX8_back_38 : decode cX8_back 38 = .ok (.getfield 104, 3) := by decide +kernel
theorem dX8_back_41 : decode cX8_back 41 = .ok (.getfield 162, 3) := by decide +kernel
theorem dX8_back_44 : decode cX8_back 44 = .ok (.ireturn, 1) := by decide +kernel
theorem dX8_count_0 : decode cX8_count 0 = .ok (.iload_n 1, 1) := by decide +kernel
theorem dX8_count_1 : decode cX8_count 1 = .ok (.tableswitch 87 0 5 #[39, 47, 55, 63, 71, 79], 39) := by decide +kernel
theorem dX8_count_40 : decode cX8_count 40 = .ok (.aload_n 0, 1) := by decide +kernel
theorem dX8_count_41 : decode cX8_count 41 = .ok (.getfield 62, 3) := by decide +kernel
theorem dX8_count_44 : decode cX8_count 44 = .ok (.getfield 168, 3) := by decide +kernel
theorem dX8_count_47 : decode cX8_count 47 = .ok (.ireturn, 1) := by decide +kernel
theorem dX8_count_48 : decode cX8_count 48 = .ok (.aload_n 0, 1) := by decide +kernel
theorem dX8_count_49 : decode cX8_count 49 = .ok (.getfield 62, 3) := by decide +kernel
theorem dX8_count_52 : decode cX8_count 52 = .ok (.getfield 282, 3) := by decide +kernel
theorem dX8_count_55 : decode cX8_count 55 = .ok (.ireturn, 1) := by decide +kernel
theorem dX8_count_56 : decode cX8_count 56 = .ok (.aload_n 0, 1) := by decide +kernel
theorem dX8_count_57 : decode cX8_count 57 = .ok (.getfield 62, 3) := by decide +kernel
theorem dX8_count_60 : decode cX8_count 60 = .ok (.getfield 159, 3) := by decide +kernel
theorem dX8_count_63 : decode cX8_count 63 = .ok (.ireturn, 1) := by decide +kernel
theorem dX8_count_64 : decode cX8_count 64 = .ok (.aload_n 0, 1) := by decide +kernel
theorem dX8_count_65 : decode cX8_count 65 = .ok (.getfield 62, 3) := by decide +kernel
theorem dX8_count_68 : decode cX8_count 68 = .ok (.getfield 156, 3) := by decide +kernel
theorem dX8_count_71 : decode cX8_count 71 = .ok (.ireturn, 1) := by decide +kernel
theorem dX8_count_72 : decode cX8_count 72 = .ok (.aload_n 0, 1) := by decide +kernel
theorem dX8_count_73 : decode cX8_count 73 = .ok (.getfield 19, 3) := by decide +kernel
theorem dX8_count_76 : decode cX8_count 76 = .ok (.getfield 178, 3) := by decide +kernel
theorem dX8_count_79 : decode cX8_count 79 = .ok (.ireturn, 1) := by decide +kernel
theorem dX8_count_80 : decode cX8_count 80 = .ok (.aload_n 0, 1) := by decide +kernel
theorem dX8_count_81 : decode cX8_count 81 = .ok (.getfield 10, 3) := by decide +kernel
theorem dX8_count_84 : decode cX8_count 84 = .ok (.getfield 73, 3) := by decide +kernel
theorem dX8_count_87 : decode cX8_count 87 = .ok (.ireturn, 1) := by decide +kernel
theorem dX8_count_88 : decode cX8_count 88 = .ok (.iconst (-1), 1) := by decide +kernel
theorem dX8_count_89 : decode cX8_count 89 = .ok (.ireturn, 1) := by decide +kernel
theorem dX8_trace_0 : decode cX8_trace 0 = .ok (.aload_n 0, 1) := by decide +kernel
theorem dX8_trace_1 : decode cX8_trace 1 = .ok (.getfield 285, 3) := by decide +kernel
theorem dX8_trace_4 : decode cX8_trace 4 = .ok (.lreturn, 1) := by decide +kernel
theorem dX8_isFloor_0 : decode cX8_isFloor 0 = .ok (.iload_n 0, 1) := by decide +kernel
theorem dX8_isFloor_1 : decode cX8_isFloor 1 = .ok (.ifCond .lt 13, 3) := by decide +kernel
theorem dX8_isFloor_4 : decode cX8_isFloor 4 = .ok (.iload_n 0, 1) := by decide +kernel
theorem dX8_isFloor_5 : decode cX8_isFloor 5 = .ok (.bipush 7, 2) := by decide +kernel
theorem dX8_isFloor_7 : decode cX8_isFloor 7 = .ok (.if_icmp .ge 7, 3) := by decide +kernel
theorem dX8_isFloor_10 : decode cX8_isFloor 10 = .ok (.iconst 1, 1) := by decide +kernel
theorem dX8_isFloor_11 : decode cX8_isFloor 11 = .ok (.goto 4, 3) := by decide +kernel
theorem dX8_isFloor_14 : decode cX8_isFloor 14 = .ok (.iconst 0, 1) := by decide +kernel
theorem dX8_isFloor_15 : decode cX8_isFloor 15 = .ok (.ireturn, 1) := by decide +kernel
theorem dX8_isAsked_0 : decode cX8_isAsked 0 = .ok (.iload_n 0, 1) := by decide +kernel
theorem dX8_isAsked_1 : decode cX8_isAsked 1 = .ok (.ifCond .lt 13, 3) := by decide +kernel
theorem dX8_isAsked_4 : decode cX8_isAsked 4 = .ok (.iload_n 0, 1) := by decide +kernel
theorem dX8_isAsked_5 : decode cX8_isAsked 5 = .ok (.bipush 99, 2) := by decide +kernel
theorem dX8_isAsked_7 : decode cX8_isAsked 7 = .ok (.if_icmp .gt 7, 3) := by decide +kernel
theorem dX8_isAsked_10 : decode cX8_isAsked 10 = .ok (.iconst 1, 1) := by decide +kernel
theorem dX8_isAsked_11 : decode cX8_isAsked 11 = .ok (.goto 4, 3) := by decide +kernel
theorem dX8_isAsked_14 : decode cX8_isAsked 14 = .ok (.iconst 0, 1) := by decide +kernel
theorem dX8_isAsked_15 : decode cX8_isAsked 15 = .ok (.ireturn, 1) := by decide +kernel
theorem dX8_isImage_0 : decode cX8_isImage 0 = .ok (.iload_n 0, 1) := by decide +kernel
theorem dX8_isImage_1 : decode cX8_isImage 1 = .ok (.ifCond .lt 12, 3) := by decide +kernel
theorem dX8_isImage_4 : decode cX8_isImage 4 = .ok (.iload_n 0, 1) := by decide +kernel
theorem dX8_isImage_5 : decode cX8_isImage 5 = .ok (.iconst 2, 1) := by decide +kernel
theorem dX8_isImage_6 : decode cX8_isImage 6 = .ok (.if_icmp .ge 7, 3) := by decide +kernel
theorem dX8_isImage_9 : decode cX8_isImage 9 = .ok (.iconst 1, 1) := by decide +kernel
theorem dX8_isImage_10 : decode cX8_isImage 10 = .ok (.goto 4, 3) := by decide +kernel
theorem dX8_isImage_13 : decode cX8_isImage 13 = .ok (.iconst 0, 1) := by decide +kernel
theorem dX8_isImage_14 : decode cX8_isImage 14 = .ok (.ireturn, 1) := by decide +kernel
theorem dX8_bondAt_0 : decode cX8_bondAt 0 = .ok (.iload_n 0, 1) := by decide +kernel
theorem dX8_bondAt_1 : decode cX8_bondAt 1 = .ok (.bipush 7, 2) := by decide +kernel
theorem dX8_bondAt_3 : decode cX8_bondAt 3 = .ok (.imul, 1) := by decide +kernel
theorem dX8_bondAt_4 : decode cX8_bondAt 4 = .ok (.iload_n 1, 1) := by decide +kernel
theorem dX8_bondAt_5 : decode cX8_bondAt 5 = .ok (.iadd, 1) := by decide +kernel
theorem dX8_bondAt_6 : decode cX8_bondAt 6 = .ok (.ireturn, 1) := by decide +kernel
theorem dX8_priceOf_0 : decode cX8_priceOf 0 = .ok (.iconst 0, 1) := by decide +kernel
theorem dX8_priceOf_1 : decode cX8_priceOf 1 = .ok (.bipush 9, 2) := by decide +kernel
theorem dX8_priceOf_3 : decode cX8_priceOf 3 = .ok (.aload_n 0, 1) := by decide +kernel
theorem dX8_priceOf_4 : decode cX8_priceOf 4 = .ok (.getfield 19, 3) := by decide +kernel
theorem dX8_priceOf_7 : decode cX8_priceOf 7 = .ok (.getfield 104, 3) := by decide +kernel
theorem dX8_priceOf_10 : decode cX8_priceOf 10 = .ok (.getfield 108, 3) := by decide +kernel
theorem dX8_priceOf_13 : decode cX8_priceOf 13 = .ok (.iload_n 1, 1) := by decide +kernel
theorem dX8_priceOf_14 : decode cX8_priceOf 14 = .ok (.iaload, 1) := by decide +kernel
theorem dX8_priceOf_15 : decode cX8_priceOf 15 = .ok (.imul, 1) := by decide +kernel
theorem dX8_priceOf_16 : decode cX8_priceOf 16 = .ok (.aload_n 0, 1) := by decide +kernel
theorem dX8_priceOf_17 : decode cX8_priceOf 17 = .ok (.getfield 62, 3) := by decide +kernel
theorem dX8_priceOf_20 : decode cX8_priceOf 20 = .ok (.getfield 98, 3) := by decide +kernel
theorem dX8_priceOf_23 : decode cX8_priceOf 23 = .ok (.iload_n 1, 1) := by decide +kernel
theorem dX8_priceOf_24 : decode cX8_priceOf 24 = .ok (.iaload, 1) := by decide +kernel
theorem dX8_priceOf_25 : decode cX8_priceOf 25 = .ok (.isub, 1) := by decide +kernel
theorem dX8_priceOf_26 : decode cX8_priceOf 26 = .ok (.invokestatic 289, 3) := by decide +kernel
theorem dX8_priceOf_29 : decode cX8_priceOf 29 = .ok (.ireturn, 1) := by decide +kernel
theorem dX8_dearest_0 : decode cX8_dearest 0 = .ok (.bipush (-9), 2) := by decide +kernel
theorem dX8_dearest_2 : decode cX8_dearest 2 = .ok (.istore_n 1, 1) := by decide +kernel
theorem dX8_dearest_3 : decode cX8_dearest 3 = .ok (.iconst 0, 1) := by decide +kernel
theorem dX8_dearest_4 : decode cX8_dearest 4 = .ok (.istore_n 2, 1) := by decide +kernel
theorem dX8_dearest_5 : decode cX8_dearest 5 = .ok (.iload_n 2, 1) := by decide +kernel
theorem dX8_dearest_6 : decode cX8_dearest 6 = .ok (.aload_n 0, 1) := by decide +kernel
theorem dX8_dearest_7 : decode cX8_dearest 7 = .ok (.getfield 62, 3) := by decide +kernel
theorem dX8_dearest_10 : decode cX8_dearest 10 = .ok (.getfield 168, 3) := by decide +kernel
theorem dX8_dearest_13 : decode cX8_dearest 13 = .ok (.if_icmp .ge 30, 3) := by decide +kernel
theorem dX8_dearest_16 : decode cX8_dearest 16 = .ok (.iload_n 1, 1) := by decide +kernel
theorem dX8_dearest_17 : decode cX8_dearest 17 = .ok (.bipush (-9), 2) := by decide +kernel
theorem dX8_dearest_19 : decode cX8_dearest 19 = .ok (.if_icmp .eq 16, 3) := by decide +kernel
theorem dX8_dearest_22 : decode cX8_dearest 22 = .ok (.aload_n 0, 1) := by decide +kernel
theorem dX8_dearest_23 : decode cX8_dearest 23 = .ok (.iload_n 2, 1) := by decide +kernel
theorem dX8_dearest_24 : decode cX8_dearest 24 = .ok (.invokevirtual 116, 3) := by decide +kernel
theorem dX8_dearest_27 : decode cX8_dearest 27 = .ok (.aload_n 0, 1) := by decide +kernel
theorem dX8_dearest_28 : decode cX8_dearest 28 = .ok (.iload_n 1, 1) := by decide +kernel
theorem dX8_dearest_29 : decode cX8_dearest 29 = .ok (.invokevirtual 116, 3) := by decide +kernel
theorem dX8_dearest_32 : decode cX8_dearest 32 = .ok (.if_icmp .le 5, 3) := by decide +kernel
theorem dX8_dearest_35 : decode cX8_dearest 35 = .ok (.iload_n 2, 1) := by decide +kernel
theorem dX8_dearest_36 : decode cX8_dearest 36 = .ok (.istore_n 1, 1) := by decide +kernel
theorem dX8_dearest_37 : decode cX8_dearest 37 = .ok (.iinc 2 1, 3) := by decide +kernel
theorem dX8_dearest_40 : decode cX8_dearest 40 = .ok (.goto (-35), 3) := by decide +kernel
theorem dX8_dearest_43 : decode cX8_dearest 43 = .ok (.iload_n 1, 1) := by decide +kernel
theorem dX8_dearest_44 : decode cX8_dearest 44 = .ok (.ireturn, 1) := by decide +kernel
theorem dX8_stairsPaidOff_0 : decode cX8_stairsPaidOff 0 = .ok (.iconst 0, 1) := by decide +kernel
theorem dX8_stairsPaidOff_1 : decode cX8_stairsPaidOff 1 = .ok (.istore_n 1, 1) := by decide +kernel
theorem dX8_stairsPaidOff_2 : decode cX8_stairsPaidOff 2 = .ok (.iconst 0, 1) := by decide +kernel
theorem dX8_stairsPaidOff_3 : decode cX8_stairsPaidOff 3 = .ok (.istore_n 2, 1) := by decide +kernel
theorem dX8_stairsPaidOff_4 : decode cX8_stairsPaidOff 4 = .ok (.iload_n 2, 1) := by decide +kernel
theorem dX8_stairsPaidOff_5 : decode cX8_stairsPaidOff 5 = .ok (.aload_n 0, 1) := by decide +kernel
theorem dX8_stairsPaidOff_6 : decode cX8_stairsPaidOff 6 = .ok (.getfield 62, 3) := by decide +kernel
theorem dX8_stairsPaidOff_9 : decode cX8_stairsPaidOff 9 = .ok (.getfield 168, 3) := by decide +kernel
theorem dX8_stairsPaidOff_12 : decode cX8_stairsPaidOff 12 = .ok (.if_icmp .ge 30, 3) := by decide +kernel
theorem dX8_stairsPaidOff_15 : decode cX8_stairsPaidOff 15 = .ok (.aload_n 0, 1) := by decide +kernel
theorem dX8_stairsPaidOff_16 : decode cX8_stairsPaidOff 16 = .ok (.getfield 19, 3) := by decide +kernel
theorem dX8_stairsPaidOff_19 : decode cX8_stairsPaidOff 19 = .ok (.getfield 104, 3) := by decide +kernel
theorem dX8_stairsPaidOff_22 : decode cX8_stairsPaidOff 22 = .ok (.getfield 108, 3) := by decide +kernel
theorem dX8_stairsPaidOff_25 : decode cX8_stairsPaidOff 25 = .ok (.iload_n 2, 1) := by decide +kernel
theorem dX8_stairsPaidOff_26 : decode cX8_stairsPaidOff 26 = .ok (.iaload, 1) := by decide +kernel
theorem dX8_stairsPaidOff_27 : decode cX8_stairsPaidOff 27 = .ok (.ifCond .ne 9, 3) := by decide +kernel
theorem dX8_stairsPaidOff_30 : decode cX8_stairsPaidOff 30 = .ok (.iload_n 1, 1) := by decide +kernel
theorem dX8_stairsPaidOff_31 : decode cX8_stairsPaidOff 31 = .ok (.iconst 1, 1) := by decide +kernel
theorem dX8_stairsPaidOff_32 : decode cX8_stairsPaidOff 32 = .ok (.iload_n 2, 1) := by decide +kernel
theorem dX8_stairsPaidOff_33 : decode cX8_stairsPaidOff 33 = .ok (.ishl, 1) := by decide +kernel
theorem dX8_stairsPaidOff_34 : decode cX8_stairsPaidOff 34 = .ok (.ior, 1) := by decide +kernel
theorem dX8_stairsPaidOff_35 : decode cX8_stairsPaidOff 35 = .ok (.istore_n 1, 1) := by decide +kernel
theorem dX8_stairsPaidOff_36 : decode cX8_stairsPaidOff 36 = .ok (.iinc 2 1, 3) := by decide +kernel
theorem dX8_stairsPaidOff_39 : decode cX8_stairsPaidOff 39 = .ok (.goto (-35), 3) := by decide +kernel
theorem dX8_stairsPaidOff_42 : decode cX8_stairsPaidOff 42 = .ok (.iload_n 1, 1) := by decide +kernel
theorem dX8_stairsPaidOff_43 : decode cX8_stairsPaidOff 43 = .ok (.ireturn, 1) := by decide +kernel
theorem dX8_asStair_0 : decode cX8_asStair 0 = .ok (.aload_n 0, 1) := by decide +kernel
theorem dX8_asStair_1 : decode cX8_asStair 1 = .ok (.dup, 1) := by decide +kernel
theorem dX8_asStair_2 : decode cX8_asStair 2 = .ok (.getfield 285, 3) := by decide +kernel
theorem dX8_asStair_5 : decode cX8_asStair 5 = .ok (.lconst 1, 1) := by decide +kernel
theorem dX8_asStair_6 : decode cX8_asStair 6 = .ok (.ladd, 1) := by decide +kernel
theorem dX8_asStair_7 : decode cX8_asStair 7 = .ok (.putfield 285, 3) := by decide +kernel
theorem dX8_asStair_10 : decode cX8_asStair 10 = .ok (.aload_n 0, 1) := by decide +kernel
theorem dX8_asStair_11 : decode cX8_asStair 11 = .ok (.getfield 19, 3) := by decide +kernel
theorem dX8_asStair_14 : decode cX8_asStair 14 = .ok (.getfield 104, 3) := by decide +kernel
theorem dX8_asStair_17 : decode cX8_asStair 17 = .ok (.getfield 108, 3) := by decide +kernel
theorem dX8_asStair_20 : decode cX8_asStair 20 = .ok (.iload_n 1, 1) := by decide +kernel
theorem dX8_asStair_21 : decode cX8_asStair 21 = .ok (.iaload, 1) := by decide +kernel
theorem dX8_asStair_22 : decode cX8_asStair 22 = .ok (.ireturn, 1) := by decide +kernel
theorem dX8_asMarble_0 : decode cX8_asMarble 0 = .ok (.aload_n 0, 1) := by decide +kernel
theorem dX8_asMarble_1 : decode cX8_asMarble 1 = .ok (.dup, 1) := by decide +kernel
theorem dX8_asMarble_2 : decode cX8_asMarble 2 = .ok (.getfield 285, 3) := by decide +kernel
theorem dX8_asMarble_5 : decode cX8_asMarble 5 = .ok (.ldc2_w 294, 3) := by decide +kernel
theorem dX8_asMarble_8 : decode cX8_asMarble 8 = .ok (.ladd, 1) := by decide +kernel
theorem dX8_asMarble_9 : decode cX8_asMarble 9 = .ok (.putfield 285, 3) := by decide +kernel
theorem dX8_asMarble_12 : decode cX8_asMarble 12 = .ok (.aload_n 0, 1) := by decide +kernel
theorem dX8_asMarble_13 : decode cX8_asMarble 13 = .ok (.iload_n 1, 1) := by decide +kernel
theorem dX8_asMarble_14 : decode cX8_asMarble 14 = .ok (.invokevirtual 257, 3) := by decide +kernel
theorem dX8_asMarble_17 : decode cX8_asMarble 17 = .ok (.aload_n 0, 1) := by decide +kernel
theorem dX8_asMarble_18 : decode cX8_asMarble 18 = .ok (.getfield 62, 3) := by decide +kernel
theorem dX8_asMarble_21 : decode cX8_asMarble 21 = .ok (.getfield 98, 3) := by decide +kernel
theorem dX8_asMarble_24 : decode cX8_asMarble 24 = .ok (.iload_n 1, 1) := by decide +kernel
theorem dX8_asMarble_25 : decode cX8_asMarble 25 = .ok (.iaload, 1) := by decide +kernel
theorem dX8_asMarble_26 : decode cX8_asMarble 26 = .ok (.iadd, 1) := by decide +kernel
theorem dX8_asMarble_27 : decode cX8_asMarble 27 = .ok (.ireturn, 1) := by decide +kernel
theorem dX8_asLadder_0 : decode cX8_asLadder 0 = .ok (.aload_n 0, 1) := by decide +kernel
theorem dX8_asLadder_1 : decode cX8_asLadder 1 = .ok (.dup, 1) := by decide +kernel
theorem dX8_asLadder_2 : decode cX8_asLadder 2 = .ok (.getfield 285, 3) := by decide +kernel
theorem dX8_asLadder_5 : decode cX8_asLadder 5 = .ok (.ldc2_w 296, 3) := by decide +kernel
theorem dX8_asLadder_8 : decode cX8_asLadder 8 = .ok (.ladd, 1) := by decide +kernel
theorem dX8_asLadder_9 : decode cX8_asLadder 9 = .ok (.putfield 285, 3) := by decide +kernel
theorem dX8_asLadder_12 : decode cX8_asLadder 12 = .ok (.aload_n 0, 1) := by decide +kernel
theorem dX8_asLadder_13 : decode cX8_asLadder 13 = .ok (.iload_n 1, 1) := by decide +kernel
theorem dX8_asLadder_14 : decode cX8_asLadder 14 = .ok (.invokevirtual 257, 3) := by decide +kernel
theorem dX8_asLadder_17 : decode cX8_asLadder 17 = .ok (.aload_n 0, 1) := by decide +kernel
theorem dX8_asLadder_18 : decode cX8_asLadder 18 = .ok (.getfield 19, 3) := by decide +kernel
theorem dX8_asLadder_21 : decode cX8_asLadder 21 = .ok (.getfield 104, 3) := by decide +kernel
theorem dX8_asLadder_24 : decode cX8_asLadder 24 = .ok (.getfield 113, 3) := by decide +kernel
theorem dX8_asLadder_27 : decode cX8_asLadder 27 = .ok (.iload_n 1, 1) := by decide +kernel
theorem dX8_asLadder_28 : decode cX8_asLadder 28 = .ok (.iaload, 1) := by decide +kernel
theorem dX8_asLadder_29 : decode cX8_asLadder 29 = .ok (.isub, 1) := by decide +kernel
theorem dX8_asLadder_30 : decode cX8_asLadder 30 = .ok (.ireturn, 1) := by decide +kernel
theorem dX8_asChurch_0 : decode cX8_asChurch 0 = .ok (.aload_n 0, 1) := by decide +kernel
theorem dX8_asChurch_1 : decode cX8_asChurch 1 = .ok (.dup, 1) := by decide +kernel
theorem dX8_asChurch_2 : decode cX8_asChurch 2 = .ok (.getfield 285, 3) := by decide +kernel
theorem dX8_asChurch_5 : decode cX8_asChurch 5 = .ok (.ldc2_w 298, 3) := by decide +kernel
theorem dX8_asChurch_8 : decode cX8_asChurch 8 = .ok (.ladd, 1) := by decide +kernel
theorem dX8_asChurch_9 : decode cX8_asChurch 9 = .ok (.putfield 285, 3) := by decide +kernel
theorem dX8_asChurch_12 : decode cX8_asChurch 12 = .ok (.aload_n 0, 1) := by decide +kernel
theorem dX8_asChurch_13 : decode cX8_asChurch 13 = .ok (.iload_n 1, 1) := by decide +kernel
theorem dX8_asChurch_14 : decode cX8_asChurch 14 = .ok (.invokevirtual 260, 3) := by decide +kernel
theorem dX8_asChurch_17 : decode cX8_asChurch 17 = .ok (.iconst 2, 1) := by decide +kernel
theorem dX8_asChurch_18 : decode cX8_asChurch 18 = .ok (.imul, 1) := by decide +kernel
theorem dX8_asChurch_19 : decode cX8_asChurch 19 = .ok (.ireturn, 1) := by decide +kernel
theorem dX8_asLift_0 : decode cX8_asLift 0 = .ok (.aload_n 0, 1) := by decide +kernel
theorem dX8_asLift_1 : decode cX8_asLift 1 = .ok (.dup, 1) := by decide +kernel
theorem dX8_asLift_2 : decode cX8_asLift 2 = .ok (.getfield 285, 3) := by decide +kernel
theorem dX8_asLift_5 : decode cX8_asLift 5 = .ok (.ldc2_w 300, 3) := by decide +kernel
theorem dX8_asLift_8 : decode cX8_asLift 8 = .ok (.ladd, 1) := by decide +kernel
theorem dX8_asLift_9 : decode cX8_asLift 9 = .ok (.putfield 285, 3) := by decide +kernel
theorem dX8_asLift_12 : decode cX8_asLift 12 = .ok (.aload_n 0, 1) := by decide +kernel
theorem dX8_asLift_13 : decode cX8_asLift 13 = .ok (.iload_n 1, 1) := by decide +kernel
theorem dX8_asLift_14 : decode cX8_asLift 14 = .ok (.invokevirtual 263, 3) := by decide +kernel
theorem dX8_asLift_17 : decode cX8_asLift 17 = .ok (.aload_n 0, 1) := by decide +kernel
theorem dX8_asLift_18 : decode cX8_asLift 18 = .ok (.getfield 62, 3) := by decide +kernel
theorem dX8_asLift_21 : decode cX8_asLift 21 = .ok (.getfield 101, 3) := by decide +kernel
theorem dX8_asLift_24 : decode cX8_asLift 24 = .ok (.iload_n 1, 1) := by decide +kernel
theorem dX8_asLift_25 : decode cX8_asLift 25 = .ok (.iaload, 1) := by decide +kernel
theorem dX8_asLift_26 : decode cX8_asLift 26 = .ok (.iadd, 1) := by decide +kernel
theorem dX8_asLift_27 : decode cX8_asLift 27 = .ok (.ireturn, 1) := by decide +kernel
theorem dX8_asTower_0 : decode cX8_asTower 0 = .ok (.aload_n 0, 1) := by decide +kernel
theorem dX8_asTower_1 : decode cX8_asTower 1 = .ok (.dup, 1) := by decide +kernel
theorem dX8_asTower_2 : decode cX8_asTower 2 = .ok (.getfield 285, 3) := by decide +kernel
theorem dX8_asTower_5 : decode cX8_asTower 5 = .ok (.ldc2_w 302, 3) := by decide +kernel
theorem dX8_asTower_8 : decode cX8_asTower 8 = .ok (.ladd, 1) := by decide +kernel
theorem dX8_asTower_9 : decode cX8_asTower 9 = .ok (.putfield 285, 3) := by decide +kernel
theorem dX8_asTower_12 : decode cX8_asTower 12 = .ok (.aload_n 0, 1) := by decide +kernel
theorem dX8_asTower_13 : decode cX8_asTower 13 = .ok (.iload_n 1, 1) := by decide +kernel
theorem dX8_asTower_14 : decode cX8_asTower 14 = .ok (.invokevirtual 257, 3) := by decide +kernel
theorem dX8_asTower_17 : decode cX8_asTower 17 = .ok (.aload_n 0, 1) := by decide +kernel
theorem dX8_asTower_18 : decode cX8_asTower 18 = .ok (.getfield 19, 3) := by decide +kernel
theorem dX8_asTower_21 : decode cX8_asTower 21 = .ok (.getfield 104, 3) := by decide +kernel
theorem dX8_asTower_24 : decode cX8_asTower 24 = .ok (.getfield 162, 3) := by decide +kernel
theorem dX8_asTower_27 : decode cX8_asTower 27 = .ok (.iadd, 1) := by decide +kernel
theorem dX8_asTower_28 : decode cX8_asTower 28 = .ok (.ireturn, 1) := by decide +kernel
end
section
theorem dX9_init_0 : decode cX9_init 0 = .ok (.aload_n 0, 1) := by decide +kernel
theorem dX9_init_1 : decode cX9_init 1 = .ok (.invokespecial 1, 3) := by decide +kernel
theorem dX9_init_4 : decode cX9_init 4 = .ok (.aload_n 0, 1) := by decide +kernel
theorem dX9_init_5 : decode cX9_init 5 = .ok (.sipush 200, 3) := by decide +kernel
theorem dX9_init_8 : decode cX9_init 8 = .ok (.newarray .int, 2) := by decide +kernel
theorem dX9_init_10 : decode cX9_init 10 = .ok (.putfield 7, 3) := by decide +kernel
theorem dX9_init_13 : decode cX9_init 13 = .ok (.aload_n 0, 1) := by decide +kernel
theorem dX9_init_14 : decode cX9_init 14 = .ok (.bipush 49, 2) := by decide +kernel
theorem dX9_init_16 : decode cX9_init 16 = .ok (.newarray .int, 2) := by decide +kernel
theorem dX9_init_18 : decode cX9_init 18 = .ok (.putfield 13, 3) := by decide +kernel
theorem dX9_init_21 : decode cX9_init 21 = .ok (.aload_n 0, 1) := by decide +kernel
theorem dX9_init_22 : decode cX9_init 22 = .ok (.bipush 49, 2) := by decide +kernel
theorem dX9_init_24 : decode cX9_init 24 = .ok (.newarray .int, 2) := by decide +kernel
theorem dX9_init_26 : decode cX9_init 26 = .ok (.putfield 16, 3) := by decide +kernel
theorem dX9_init_29 : decode cX9_init 29 = .ok (.aload_n 0, 1) := by decide +kernel
theorem dX9_init_30 : decode cX9_init 30 = .ok (.sipush 716, 3) := by decide +kernel
theorem dX9_init_33 : decode cX9_init 33 = .ok (.newarray .int, 2) := by decide +kernel
theorem dX9_init_35 : decode cX9_init 35 = .ok (.putfield 19, 3) := by decide +kernel
theorem dX9_init_38 : decode cX9_init 38 = .ok (.aload_n 0, 1) := by decide +kernel
theorem dX9_init_39 : decode cX9_init 39 = .ok (.sipush 1432, 3) := by decide +kernel
theorem dX9_init_42 : decode cX9_init 42 = .ok (.newarray .int, 2) := by decide +kernel
theorem dX9_init_44 : decode cX9_init 44 = .ok (.putfield 22, 3) := by decide +kernel
theorem dX9_init_47 : decode cX9_init 47 = .ok (.aload_n 0, 1) := by decide +kernel
theorem dX9_init_48 : decode cX9_init 48 = .ok (.iconst 2, 1) := by decide +kernel
theorem dX9_init_49 : decode cX9_init 49 = .ok (.newarray .boolean, 2) := by decide +kernel
theorem dX9_init_51 : decode cX9_init 51 = .ok (.putfield 25, 3) := by decide +kernel
theorem dX9_init_54 : decode cX9_init 54 = .ok (.aload_n 0, 1) := by decide +kernel
theorem dX9_init_55 : decode cX9_init 55 = .ok (.bipush 49, 2) := by decide +kernel
theorem dX9_init_57 : decode cX9_init 57 = .ok (.newarray .int, 2) := by decide +kernel
theorem dX9_init_59 : decode cX9_init 59 = .ok (.putfield 29, 3) := by decide +kernel
theorem dX9_init_62 : decode cX9_init 62 = .ok (.aload_n 0, 1) := by decide +kernel
theorem dX9_init_63 : decode cX9_init 63 = .ok (.bipush 8, 2) := by decide +kernel
theorem dX9_init_65 : decode cX9_init 65 = .ok (.newarray .int, 2) := by decide +kernel
theorem dX9_init_67 : decode cX9_init 67 = .ok (.putfield 32, 3) := by decide +kernel
theorem dX9_init_70 : decode cX9_init 70 = .ok (.aload_n 0, 1) := by decide +kernel
theorem dX9_init_71 : decode cX9_init 71 = .ok (.bipush 7, 2) := by decide +kernel
theorem dX9_init_73 : decode cX9_init 73 = .ok (.newarray .int, 2) := by decide +kernel
theorem dX9_init_75 : decode cX9_init 75 = .ok (.putfield 35, 3) := by decide +kernel
theorem dX9_init_78 : decode cX9_init 78 = .ok (.aload_n 0, 1) := by decide +kernel
theorem dX9_init_79 : decode cX9_init 79 = .ok (.sipush 1000, 3) := by decide +kernel
theorem dX9_init_82 : decode cX9_init 82 = .ok (.newarray .int, 2) := by decide +kernel
theorem dX9_init_84 : decode cX9_init 84 = .ok (.putfield 38, 3) := by decide +kernel
theorem dX9_init_87 : decode cX9_init 87 = .ok (.aload_n 0, 1) := by decide +kernel
theorem dX9_init_88 : decode cX9_init 88 = .ok (.sipush 800, 3) := by decide +kernel
theorem dX9_init_91 : decode cX9_init 91 = .ok (.newarray .int, 2) := by decide +kernel
theorem dX9_init_93 : decode cX9_init 93 = .ok (.putfield 41, 3) := by decide +kernel
theorem dX9_init_96 : decode cX9_init 96 = .ok (.aload_n 0, 1) := by decide +kernel
theorem dX9_init_97 : decode cX9_init 97 = .ok (.sipush 800, 3) := by decide +kernel
theorem dX9_init_100 : decode cX9_init 100 = .ok (.newarray .int, 2) := by decide +kernel
theorem dX9_init_102 : decode cX9_init 102 = .ok (.putfield 44, 3) := by decide +kernel
theorem dX9_init_105 : decode cX9_init 105 = .ok (.aload_n 0, 1) := by decide +kernel
theorem dX9_init_106 : decode cX9_init 106 = .ok (.invokevirtual 47, 3) := by decide +kernel
theorem dX9_init_109 : decode cX9_init 109 = .ok (.pop, 1) := by decide +kernel
theorem dX9_init_110 : decode cX9_init 110 = .ok (.aload_n 0, 1) := by decide +kernel
theorem dX9_init_111 : decode cX9_init 111 = .ok (.invokevirtual 51, 3) := by decide +kernel
theorem dX9_init_114 : decode cX9_init 114 = .ok (.return_, 1) := by decide +kernel
theorem dX9_in_0 : decode cX9_in 0 = .ok (.iload_n 0, 1) := by decide +kernel
theorem dX9_in_1 : decode cX9_in 1 = .ok (.iload_n 1, 1) := by decide +kernel
theorem dX9_in_2 : decode cX9_in 2 = .ok (.if_icmp .lt 12, 3) := by decide +kernel
theorem dX9_in_5 : decode cX9_in 5 = .ok (.iload_n 0, 1) := by decide +kernel
theorem dX9_in_6 : decode cX9_in 6 = .ok (.iload_n 2, 1) := by decide +kernel
theorem dX9_in_7 : decode cX9_in 7 = .ok (.if_icmp .gt 7, 3) := by decide +kernel
theorem dX9_in_10 : decode cX9_in 10 = .ok (.iconst 1, 1) := by decide +kernel
theorem dX9_in_11 : decode cX9_in 11 = .ok (.goto 4, 3) := by decide +kernel
theorem dX9_in_14 : decode cX9_in 14 = .ok (.iconst 0, 1) := by decide +kernel
theorem dX9_in_15 : decode cX9_in 15 = .ok (.ireturn, 1) := by decide +kernel
theorem dX9_isStair_0 : decode cX9_isStair 0 = .ok (.iload_n 1, 1) := by decide +kernel
theorem dX9_isStair_1 : decode cX9_isStair 1 = .ok (.iconst 0, 1) := by decide +kernel
theorem dX9_isStair_2 : decode cX9_isStair 2 = .ok (.aload_n 0, 1) := by decide +kernel
theorem dX9_isStair_3 : decode cX9_isStair 3 = .ok (.getfield 13, 3) := by decide +kernel
theorem dX9_isStair_6 : decode cX9_isStair 6 = .ok (.iconst 0, 1) := by decide +kernel
theorem dX9_isStair_7 : decode cX9_isStair 7 = .ok (.iaload, 1) := by decide +kernel
theorem dX9_isStair_8 : decode cX9_isStair 8 = .ok (.iconst 1, 1) := by decide +kernel
theorem dX9_isStair_9 : decode cX9_isStair 9 = .ok (.isub, 1) := by decide +kernel
theorem dX9_isStair_10 : decode cX9_isStair 10 = .ok (.invokestatic 54, 3) := by decide +kernel
theorem dX9_isStair_13 : decode cX9_isStair 13 = .ok (.ireturn, 1) := by decide +kernel
theorem dX9_isPerson_0 : decode cX9_isPerson 0 = .ok (.iload_n 1, 1) := by decide +kernel
theorem dX9_isPerson_1 : decode cX9_isPerson 1 = .ok (.iconst 0, 1) := by decide +kernel
theorem dX9_isPerson_2 : decode cX9_isPerson 2 = .ok (.aload_n 0, 1) := by decide +kernel
theorem dX9_isPerson_3 : decode cX9_isPerson 3 = .ok (.getfield 13, 3) := by decide +kernel
theorem dX9_isPerson_6 : decode cX9_isPerson 6 = .ok (.iconst 1, 1) := by decide +kernel
theorem dX9_isPerson_7 : decode cX9_isPerson 7 = .ok (.iaload, 1) := by decide +kernel
theorem dX9_isPerson_8 : decode cX9_isPerson 8 = .ok (.iconst 1, 1) := by decide +kernel
theorem dX9_isPerson_9 : decode cX9_isPerson 9 = .ok (.isub, 1) := by decide +kernel
theorem dX9_isPerson_10 : decode cX9_isPerson 10 = .ok (.invokestatic 54, 3) := by decide +kernel
theorem dX9_isPerson_13 : decode cX9_isPerson 13 = .ok (.ireturn, 1) := by decide +kernel
theorem dX9_isFloor_0 : decode cX9_isFloor 0 = .ok (.iload_n 0, 1) := by decide +kernel
theorem dX9_isFloor_1 : decode cX9_isFloor 1 = .ok (.iconst 0, 1) := by decide +kernel
theorem dX9_isFloor_2 : decode cX9_isFloor 2 = .ok (.bipush 6, 2) := by decide +kernel
theorem dX9_isFloor_4 : decode cX9_isFloor 4 = .ok (.invokestatic 54, 3) := by decide +kernel
theorem dX9_isFloor_7 : decode cX9_isFloor 7 = .ok (.ireturn, 1) := by decide +kernel
theorem dX9_type_0 : decode cX9_type 0 = .ok (.iload_n 1, 1) := by decide +kernel
theorem dX9_type_1 : decode cX9_type 1 = .ok (.iconst 0, 1) := by decide +kernel
theorem dX9_type_2 : decode cX9_type 2 = .ok (.sipush 255, 3) := by decide +kernel
theorem dX9_type_5 : decode cX9_type 5 = .ok (.invokestatic 54, 3) := by decide +kernel
theorem dX9_type_8 : decode cX9_type 8 = .ok (.ifCond .ne 5, 3) := by decide +kernel
theorem dX9_type_11 : decode cX9_type 11 = .ok (.iconst (-1), 1) := by decide +kernel
theorem dX9_type_12 : decode cX9_type 12 = .ok (.ireturn, 1) := by decide +kernel
theorem dX9_type_13 : decode cX9_type 13 = .ok (.aload_n 0, 1) := by decide +kernel
theorem dX9_type_14 : decode cX9_type 14 = .ok (.getfield 58, 3) := by decide +kernel
theorem dX9_type_17 : decode cX9_type 17 = .ok (.sipush 200, 3) := by decide +kernel
theorem dX9_type_20 : decode cX9_type 20 = .ok (.if_icmp .ne 6, 3) := by decide +kernel
theorem dX9_type_23 : decode cX9_type 23 = .ok (.bipush (-3), 2) := by decide +kernel
theorem dX9_type_25 : decode cX9_type 25 = .ok (.ireturn, 1) := by decide +kernel
theorem dX9_type_26 : decode cX9_type 26 = .ok (.aload_n 0, 1) := by decide +kernel
theorem dX9_type_27 : decode cX9_type 27 = .ok (.getfield 7, 3) := by decide +kernel
theorem dX9_type_30 : decode cX9_type 30 = .ok (.aload_n 0, 1) := by decide +kernel
theorem dX9_type_31 : decode cX9_type 31 = .ok (.getfield 58, 3) := by decide +kernel
theorem dX9_type_34 : decode cX9_type 34 = .ok (.iload_n 1, 1) := by decide +kernel
theorem dX9_type_35 : decode cX9_type 35 = .ok (.iastore, 1) := by decide +kernel
theorem dX9_type_36 : decode cX9_type 36 = .ok (.aload_n 0, 1) := by decide +kernel
theorem dX9_type_37 : decode cX9_type 37 = .ok (.dup, 1) := by decide +kernel
theorem dX9_type_38 : decode cX9_type 38 = .ok (.getfield 58, 3) := by decide +kernel
theorem dX9_type_41 : decode cX9_type 41 = .ok (.iconst 1, 1) := by decide +kernel
theorem dX9_type_42 : decode cX9_type 42 = .ok (.iadd, 1) := by decide +kernel
theorem dX9_type_43 : decode cX9_type 43 = .ok (.putfield 58, 3) := by decide +kernel
theorem dX9_type_46 : decode cX9_type 46 = .ok (.aload_n 0, 1) := by decide +kernel
theorem dX9_type_47 : decode cX9_type 47 = .ok (.getfield 58, 3) := by decide +kernel
theorem dX9_type_50 : decode cX9_type 50 = .ok (.ireturn, 1) := by decide +kernel
theorem dX9_clear_0 : decode cX9_clear 0 = .ok (.aload_n 0, 1) := by decide +kernel
theorem dX9_clear_1 : decode cX9_clear 1 = .ok (.getfield 58, 3) := by decide +kernel
theorem dX9_clear_4 : decode cX9_clear 4 = .ok (.istore_n 1, 1) := by decide +kernel
theorem dX9_clear_5 : decode cX9_clear 5 = .ok (.aload_n 0, 1) := by decide +kernel
theorem dX9_clear_6 : decode cX9_clear 6 = .ok (.iconst 0, 1) := by decide +kernel
theorem dX9_clear_7 : decode cX9_clear 7 = .ok (.putfield 58, 3) := by decide +kernel
theorem dX9_clear_10 : decode cX9_clear 10 = .ok (.iload_n 1, 1) := by decide +kernel
theorem dX9_clear_11 : decode cX9_clear 11 = .ok (.ireturn, 1) := by decide +kernel
theorem dX9_byteAt_0 : decode cX9_byteAt 0 = .ok (.iload_n 1, 1) := by decide +kernel
theorem dX9_byteAt_1 : decode cX9_byteAt 1 = .ok (.aload_n 0, 1) := by decide +kernel
theorem dX9_byteAt_2 : decode cX9_byteAt 2 = .ok (.getfield 58, 3) := by decide +kernel
theorem dX9_byteAt_5 : decode cX9_byteAt 5 = .ok (.if_icmp .ge 12, 3) := by decide +kernel
theorem dX9_byteAt_8 : decode cX9_byteAt 8 = .ok (.aload_n 0, 1) := by decide +kernel
theorem dX9_byteAt_9 : decode cX9_byteAt 9 = .ok (.getfield 7, 3) := by decide +kernel
theorem dX9_byteAt_12 : decode cX9_byteAt 12 = .ok (.iload_n 1, 1) := by decide +kernel
theorem dX9_byteAt_13 : decode cX9_byteAt 13 = .ok (.iaload, 1) := by decide +kernel
theorem dX9_byteAt_14 : decode cX9_byteAt 14 = .ok (.goto 4, 3) := by decide +kernel
theorem dX9_byteAt_17 : decode cX9_byteAt 17 = .ok (.iconst (-1), 1) := by decide +kernel
theorem dX9_byteAt_18 : decode cX9_byteAt 18 = .ok (.ireturn, 1) := by decide +kernel
theorem dX9_isLetter_0 : decode cX9_isLetter 0 = .ok (.iload_n 0, 1) := by decide +kernel
theorem dX9_isLetter_1 : decode cX9_isLetter 1 = .ok (.bipush 97, 2) := by decide +kernel
theorem dX9_isLetter_3 : decode cX9_isLetter 3 = .ok (.bipush 122, 2) := by decide +kernel
theorem dX9_isLetter_5 : decode cX9_isLetter 5 = .ok (.invokestatic 54, 3) := by decide +kernel
theorem dX9_isLetter_8 : decode cX9_isLetter 8 = .ok (.ireturn, 1) := by decide +kernel
theorem dX9_isDigit_0 : decode cX9_isDigit 0 = .ok (.iload_n 0, 1) := by decide +kernel
theorem dX9_isDigit_1 : decode cX9_isDigit 1 = .ok (.bipush 48, 2) := by decide +kernel
theorem dX9_isDigit_3 : decode cX9_isDigit 3 = .ok (.bipush 57, 2) := by decide +kernel
theorem dX9_isDigit_5 : decode cX9_isDigit 5 = .ok (.invokestatic 54, 3) := by decide +kernel
theorem dX9_isDigit_8 : decode cX9_isDigit 8 = .ok (.ireturn, 1) := by decide +kernel
theorem dX9_token_0 : decode cX9_token 0 = .ok (.aload_n 0, 1) := by decide +kernel
theorem dX9_token_1 : decode cX9_token 1 = .ok (.aload_n 0, 1) := by decide +kernel
theorem dX9_token_2 : decode cX9_token 2 = .ok (.getfield 62, 3) := by decide +kernel
theorem dX9_token_5 : decode cX9_token 5 = .ok (.invokevirtual 65, 3) := by decide +kernel
theorem dX9_token_8 : decode cX9_token 8 = .ok (.bipush 32, 2) := by decide +kernel
theorem dX9_token_10 : decode cX9_token 10 = .ok (.if_icmp .ne 16, 3) := by decide +kernel
theorem dX9_token_13 : decode cX9_token 13 = .ok (.aload_n 0, 1) := by decide +kernel
theorem dX9_token_14 : decode cX9_token 14 = .ok (.dup, 1) := by decide +kernel
theorem dX9_token_15 : decode cX9_token 15 = .ok (.getfield 62, 3) := by decide +kernel
theorem dX9_token_18 : decode cX9_token 18 = .ok (.iconst 1, 1) := by decide +kernel
theorem dX9_token_19 : decode cX9_token 19 = .ok (.iadd, 1) := by decide +kernel
theorem dX9_token_20 : decode cX9_token 20 = .ok (.putfield 62, 3) := by decide +kernel
theorem dX9_token_23 : decode cX9_token 23 = .ok (.goto (-23), 3) := by decide +kernel
theorem dX9_token_26 : decode cX9_token 26 = .ok (.aload_n 0, 1) := by decide +kernel
theorem dX9_token_27 : decode cX9_token 27 = .ok (.aload_n 0, 1) := by decide +kernel
theorem dX9_token_28 : decode cX9_token 28 = .ok (.getfield 62, 3) := by decide +kernel
theorem dX9_token_31 : decode cX9_token 31 = .ok (.putfield 69, 3) := by decide +kernel
theorem dX9_token_34 : decode cX9_token 34 = .ok (.aload_n 0, 1) := by decide +kernel
theorem dX9_token_35 : decode cX9_token 35 = .ok (.aload_n 0, 1) := by decide +kernel
theorem dX9_token_36 : decode cX9_token 36 = .ok (.getfield 62, 3) := by decide +kernel
theorem dX9_token_39 : decode cX9_token 39 = .ok (.invokevirtual 65, 3) := by decide +kernel
theorem dX9_token_42 : decode cX9_token 42 = .ok (.istore_n 1, 1) := by decide +kernel
theorem dX9_token_43 : decode cX9_token 43 = .ok (.aload_n 0, 1) := by decide +kernel
theorem dX9_token_44 : decode cX9_token 44 = .ok (.iload_n 1, 1) := by decide +kernel
theorem dX9_token_45 : decode cX9_token 45 = .ok (.ifCond .ge 7, 3) := by decide +kernel
theorem dX9_token_48 : decode cX9_token 48 = .ok (.iconst 0, 1) := by decide +kernel
theorem dX9_token_49 : decode cX9_token 49 = .ok (.goto 36, 3) := by decide +kernel
theorem dX9_token_52 : decode cX9_token 52 = .ok (.iload_n 1, 1) := by decide +kernel
theorem dX9_token_53 : decode cX9_token 53 = .ok (.invokestatic 72, 3) := by decide +kernel
theorem dX9_token_56 : decode cX9_token 56 = .ok (.ifCond .eq 7, 3) := by decide +kernel
theorem dX9_token_59 : decode cX9_token 59 = .ok (.iconst 1, 1) := by decide +kernel
theorem dX9_token_60 : decode cX9_token 60 = .ok (.goto 25, 3) := by decide +kernel
theorem dX9_token_63 : decode cX9_token 63 = .ok (.iload_n 1, 1) := by decide +kernel
theorem dX9_token_64 : decode cX9_token 64 = .ok (.invokestatic 76, 3) := by decide +kernel
theorem dX9_token_67 : decode cX9_token 67 = .ok (.ifCond .eq 7, 3) := by decide +kernel
theorem dX9_token_70 : decode cX9_token 70 = .ok (.iconst 2, 1) := by decide +kernel
theorem dX9_token_71 : decode cX9_token 71 = .ok (.goto 14, 3) := by decide +kernel
theorem dX9_token_74 : decode cX9_token 74 = .ok (.iload_n 1, 1) := by decide +kernel
theorem dX9_token_75 : decode cX9_token 75 = .ok (.bipush 59, 2) := by decide +kernel
theorem dX9_token_77 : decode cX9_token 77 = .ok (.if_icmp .ne 7, 3) := by decide +kernel
theorem dX9_token_80 : decode cX9_token 80 = .ok (.iconst 3, 1) := by decide +kernel
theorem dX9_token_81 : decode cX9_token 81 = .ok (.goto 4, 3) := by decide +kernel
theorem dX9_token_84 : decode cX9_token 84 = .ok (.iconst 4, 1) := by decide +kernel
theorem dX9_token_85 : decode cX9_token 85 = .ok (.putfield 79, 3) := by decide +kernel
theorem dX9_token_88 : decode cX9_token 88 = .ok (.aload_n 0, 1) := by decide +kernel
theorem dX9_token_89 : decode cX9_token 89 = .ok (.iload_n 1, 1) := by decide +kernel
theorem dX9_token_90 : decode cX9_token 90 = .ok (.putfield 82, 3) := by decide +kernel
theorem dX9_token_93 : decode cX9_token 93 = .ok (.aload_n 0, 1) := by decide +kernel
theorem dX9_token_94 : decode cX9_token 94 = .ok (.getfield 79, 3) := by decide +kernel
theorem dX9_token_97 : decode cX9_token 97 = .ok (.ifCond .eq 13, 3) := by decide +kernel
theorem dX9_token_100 : decode cX9_token 100 = .ok (.aload_n 0, 1) := by decide +kernel
theorem dX9_token_101 : decode cX9_token 101 = .ok (.dup, 1) := by decide +kernel
theorem dX9_token_102 : decode cX9_token 102 = .ok (.getfield 62, 3) := by decide +kernel
theorem dX9_token_105 : decode cX9_token 105 = .ok (.iconst 1, 1) := by decide +kernel
theorem dX9_token_106 : decode cX9_token 106 = .ok (.iadd, 1) := by decide +kernel
theorem dX9_token_107 : decode cX9_token 107 = .ok (.putfield 62, 3) := by decide +kernel
theorem dX9_token_110 : decode cX9_token 110 = .ok (.aload_n 0, 1) := by decide +kernel
theorem dX9_token_111 : decode cX9_token 111 = .ok (.getfield 79, 3) := by decide +kernel
theorem dX9_token_114 : decode cX9_token 114 = .ok (.iconst 1, 1) := by decide +kernel
theorem dX9_token_115 : decode cX9_token 115 = .ok (.if_icmp .ne 35, 3) := by decide +kernel
theorem dX9_token_118 : decode cX9_token 118 = .ok (.aload_n 0, 1) := by decide +kernel
theorem dX9_token_119 : decode cX9_token 119 = .ok (.aload_n 0, 1) := by decide +kernel
theorem dX9_token_120 : decode cX9_token 120 = .ok (.getfield 62, 3) := by decide +kernel
theorem dX9_token_123 : decode cX9_token 123 = .ok (.invokevirtual 65, 3) := by decide +kernel
theorem dX9_token_126 : decode cX9_token 126 = .ok (.invokestatic 72, 3) := by decide +kernel
theorem dX9_token_129 : decode cX9_token 129 = .ok (.ifCond .eq 21, 3) := by decide +kernel
theorem dX9_token_132 : decode cX9_token 132 = .ok (.aload_n 0, 1) := by decide +kernel
theorem dX9_token_133 : decode cX9_token 133 = .ok (.iconst 0, 1) := by decide +kernel
theorem dX9_token_134 : decode cX9_token 134 = .ok (.putfield 82, 3) := by decide +kernel
theorem dX9_token_137 : decode cX9_token 137 = .ok (.aload_n 0, 1) := by decide +kernel
theorem dX9_token_138 : decode cX9_token 138 = .ok (.dup, 1) := by decide +kernel
theorem dX9_token_139 : decode cX9_token 139 = .ok (.getfield 62, 3) := by decide +kernel
theorem dX9_token_142 : decode cX9_token 142 = .ok (.iconst 1, 1) := by decide +kernel
theorem dX9_token_143 : decode cX9_token 143 = .ok (.iadd, 1) := by decide +kernel
theorem dX9_token_144 : decode cX9_token 144 = .ok (.putfield 62, 3) := by decide +kernel
theorem dX9_token_147 : decode cX9_token 147 = .ok (.goto (-37), 3) := by decide +kernel
theorem dX9_token_150 : decode cX9_token 150 = .ok (.aload_n 0, 1) := by decide +kernel
theorem dX9_token_151 : decode cX9_token 151 = .ok (.getfield 79, 3) := by decide +kernel
theorem dX9_token_154 : decode cX9_token 154 = .ok (.iconst 2, 1) := by decide +kernel
theorem dX9_token_155 : decode cX9_token 155 = .ok (.if_icmp .ne 83, 3) := by decide +kernel
theorem dX9_token_158 : decode cX9_token 158 = .ok (.aload_n 0, 1) := by decide +kernel
theorem dX9_token_159 : decode cX9_token 159 = .ok (.iload_n 1, 1) := by decide +kernel
theorem dX9_token_160 : decode cX9_token 160 = .ok (.bipush 48, 2) := by decide +kernel
theorem dX9_token_162 : decode cX9_token 162 = .ok (.isub, 1) := by decide +kernel
theorem dX9_token_163 : decode cX9_token 163 = .ok (.putfield 82, 3) := by decide +kernel
theorem dX9_token_166 : decode cX9_token 166 = .ok (.aload_n 0, 1) := by decide +kernel
theorem dX9_token_167 : decode cX9_token 167 = .ok (.aload_n 0, 1) := by decide +kernel
theorem dX9_token_168 : decode cX9_token 168 = .ok (.getfield 62, 3) := by decide +kernel
theorem dX9_token_171 : decode cX9_token 171 = .ok (.invokevirtual 65, 3) := by decide +kernel
theorem dX9_token_174 : decode cX9_token 174 = .ok (.invokestatic 76, 3) := by decide +kernel
theorem dX9_token_177 : decode cX9_token 177 = .ok (.ifCond .eq 61, 3) := by decide +kernel
theorem dX9_token_180 : decode cX9_token 180 = .ok (.aload_n 0, 1) := by decide +kernel
theorem dX9_token_181 : decode cX9_token 181 = .ok (.iload_n 1, 1) := by decide +kernel
theorem dX9_token_182 : decode cX9_token 182 = .ok (.bipush 48, 2) := by decide +kernel
theorem dX9_token_184 : decode cX9_token 184 = .ok (.if_icmp .eq 12, 3) := by decide +kernel
theorem dX9_token_187 : decode cX9_token 187 = .ok (.aload_n 0, 1) := by decide +kernel
theorem dX9_token_188 : decode cX9_token 188 = .ok (.getfield 82, 3) := by decide +kernel
theorem dX9_token_191 : decode cX9_token 191 = .ok (.bipush 99, 2) := by decide +kernel
theorem dX9_token_193 : decode cX9_token 193 = .ok (.if_icmp .le 9, 3) := by decide +kernel
theorem dX9_token_196 : decode cX9_token 196 = .ok (.sipush 1000, 3) := by decide +kernel
theorem dX9_token_199 : decode cX9_token 199 = .ok (.goto 23, 3) := by decide +kernel
theorem dX9_token_202 : decode cX9_token 202 = .ok (.bipush 10, 2) := by decide +kernel
theorem dX9_token_204 : decode cX9_token 204 = .ok (.aload_n 0, 1) := by decide +kernel
theorem dX9_token_205 : decode cX9_token 205 = .ok (.getfield 82, 3) := by decide +kernel
theorem dX9_token_208 : decode cX9_token 208 = .ok (.imul, 1) := by decide +kernel
theorem dX9_token_209 : decode cX9_token 209 = .ok (.aload_n 0, 1) := by decide +kernel
theorem dX9_token_210 : decode cX9_token 210 = .ok (.getfield 7, 3) := by decide +kernel
theorem dX9_token_213 : decode cX9_token 213 = .ok (.aload_n 0, 1) := by decide +kernel
theorem dX9_token_214 : decode cX9_token 214 = .ok (.getfield 62, 3) := by decide +kernel
theorem dX9_token_217 : decode cX9_token 217 = .ok (.iaload, 1) := by decide +kernel
theorem dX9_token_218 : decode cX9_token 218 = .ok (.iadd, 1) := by decide +kernel
theorem dX9_token_219 : decode cX9_token 219 = .ok (.bipush 48, 2) := by decide +kernel
theorem dX9_token_221 : decode cX9_token 221 = .ok (.isub, 1) := by decide +kernel
theorem dX9_token_222 : decode cX9_token 222 = .ok (.putfield 82, 3) := by decide +kernel
theorem dX9_token_225 : decode cX9_token 225 = .ok (.aload_n 0, 1) := by decide +kernel
theorem dX9_token_226 : decode cX9_token 226 = .ok (.dup, 1) := by decide +kernel
theorem dX9_token_227 : decode cX9_token 227 = .ok (.getfield 62, 3) := by decide +kernel
theorem dX9_token_230 : decode cX9_token 230 = .ok (.iconst 1, 1) := by decide +kernel
theorem dX9_token_231 : decode cX9_token 231 = .ok (.iadd, 1) := by decide +kernel
theorem dX9_token_232 : decode cX9_token 232 = .ok (.putfield 62, 3) := by decide +kernel
theorem dX9_token_235 : decode cX9_token 235 = .ok (.goto (-69), 3) := by decide +kernel
theorem dX9_token_238 : decode cX9_token 238 = .ok (.return_, 1) := by decide +kernel
theorem dX9_number_0 : decode cX9_number 0 = .ok (.aload_n 0, 1) := by decide +kernel
theorem dX9_number_1 : decode cX9_number 1 = .ok (.invokevirtual 85, 3) := by decide +kernel
theorem dX9_number_4 : decode cX9_number 4 = .ok (.aload_n 0, 1) := by decide +kernel
theorem dX9_number_5 : decode cX9_number 5 = .ok (.getfield 16, 3) := by decide +kernel
theorem dX9_number_8 : decode cX9_number 8 = .ok (.iload_n 1, 1) := by decide +kernel
theorem dX9_number_9 : decode cX9_number 9 = .ok (.aload_n 0, 1) := by decide +kernel
theorem dX9_number_10 : decode cX9_number 10 = .ok (.getfield 82, 3) := by decide +kernel
theorem dX9_number_13 : decode cX9_number 13 = .ok (.iastore, 1) := by decide +kernel
theorem dX9_number_14 : decode cX9_number 14 = .ok (.aload_n 0, 1) := by decide +kernel
theorem dX9_number_15 : decode cX9_number 15 = .ok (.getfield 79, 3) := by decide +kernel
theorem dX9_number_18 : decode cX9_number 18 = .ok (.iconst 2, 1) := by decide +kernel
theorem dX9_number_19 : decode cX9_number 19 = .ok (.if_icmp .ne 19, 3) := by decide +kernel
theorem dX9_number_22 : decode cX9_number 22 = .ok (.aload_n 0, 1) := by decide +kernel
theorem dX9_number_23 : decode cX9_number 23 = .ok (.getfield 82, 3) := by decide +kernel
theorem dX9_number_26 : decode cX9_number 26 = .ok (.iload_n 2, 1) := by decide +kernel
theorem dX9_number_27 : decode cX9_number 27 = .ok (.iload_n 3, 1) := by decide +kernel
theorem dX9_number_28 : decode cX9_number 28 = .ok (.invokestatic 54, 3) := by decide +kernel
theorem dX9_number_31 : decode cX9_number 31 = .ok (.ifCond .eq 7, 3) := by decide +kernel
theorem dX9_number_34 : decode cX9_number 34 = .ok (.iconst 1, 1) := by decide +kernel
theorem dX9_number_35 : decode cX9_number 35 = .ok (.goto 4, 3) := by decide +kernel
theorem dX9_number_38 : decode cX9_number 38 = .ok (.iconst 0, 1) := by decide +kernel
theorem dX9_number_39 : decode cX9_number 39 = .ok (.ireturn, 1) := by decide +kernel
theorem dX9_readsStair_0 : decode cX9_readsStair 0 = .ok (.aload_n 0, 1) := by decide +kernel
theorem dX9_readsStair_1 : decode cX9_readsStair 1 = .ok (.getfield 16, 3) := by decide +kernel
theorem dX9_readsStair_4 : decode cX9_readsStair 4 = .ok (.iconst 0, 1) := by decide +kernel
theorem dX9_readsStair_5 : decode cX9_readsStair 5 = .ok (.iaload, 1) := by decide +kernel
theorem dX9_readsStair_6 : decode cX9_readsStair 6 = .ok (.istore_n 1, 1) := by decide +kernel
theorem dX9_readsStair_7 : decode cX9_readsStair 7 = .ok (.iload_n 1, 1) := by decide +kernel
theorem dX9_readsStair_8 : decode cX9_readsStair 8 = .ok (.bipush 7, 2) := by decide +kernel
theorem dX9_readsStair_10 : decode cX9_readsStair 10 = .ok (.if_icmp .eq 80, 3) := by decide +kernel
theorem dX9_readsStair_13 : decode cX9_readsStair 13 = .ok (.aload_n 0, 1) := by decide +kernel
theorem dX9_readsStair_14 : decode cX9_readsStair 14 = .ok (.bipush 6, 2) := by decide +kernel
theorem dX9_readsStair_16 : decode cX9_readsStair 16 = .ok (.iload_n 1, 1) := by decide +kernel
theorem dX9_readsStair_17 : decode cX9_readsStair 17 = .ok (.iadd, 1) := by decide +kernel
theorem dX9_readsStair_18 : decode cX9_readsStair 18 = .ok (.iconst 0, 1) := by decide +kernel
theorem dX9_readsStair_19 : decode cX9_readsStair 19 = .ok (.bipush 6, 2) := by decide +kernel
theorem dX9_readsStair_21 : decode cX9_readsStair 21 = .ok (.invokevirtual 88, 3) := by decide +kernel
theorem dX9_readsStair_24 : decode cX9_readsStair 24 = .ok (.ifCond .eq 66, 3) := by decide +kernel
theorem dX9_readsStair_27 : decode cX9_readsStair 27 = .ok (.aload_n 0, 1) := by decide +kernel
theorem dX9_readsStair_28 : decode cX9_readsStair 28 = .ok (.bipush 13, 2) := by decide +kernel
theorem dX9_readsStair_30 : decode cX9_readsStair 30 = .ok (.iload_n 1, 1) := by decide +kernel
theorem dX9_readsStair_31 : decode cX9_readsStair 31 = .ok (.iadd, 1) := by decide +kernel
theorem dX9_readsStair_32 : decode cX9_readsStair 32 = .ok (.iconst 0, 1) := by decide +kernel
theorem dX9_readsStair_33 : decode cX9_readsStair 33 = .ok (.bipush 6, 2) := by decide +kernel
theorem dX9_readsStair_35 : decode cX9_readsStair 35 = .ok (.invokevirtual 88, 3) := by decide +kernel
theorem dX9_readsStair_38 : decode cX9_readsStair 38 = .ok (.ifCond .eq 52, 3) := by decide +kernel
theorem dX9_readsStair_41 : decode cX9_readsStair 41 = .ok (.aload_n 0, 1) := by decide +kernel
theorem dX9_readsStair_42 : decode cX9_readsStair 42 = .ok (.getfield 16, 3) := by decide +kernel
theorem dX9_readsStair_45 : decode cX9_readsStair 45 = .ok (.bipush 13, 2) := by decide +kernel
theorem dX9_readsStair_47 : decode cX9_readsStair 47 = .ok (.iload_n 1, 1) := by decide +kernel
theorem dX9_readsStair_48 : decode cX9_readsStair 48 = .ok (.iadd, 1) := by decide +kernel
theorem dX9_readsStair_49 : decode cX9_readsStair 49 = .ok (.iaload, 1) := by decide +kernel
theorem dX9_readsStair_50 : decode cX9_readsStair 50 = .ok (.aload_n 0, 1) := by decide +kernel
theorem dX9_readsStair_51 : decode cX9_readsStair 51 = .ok (.getfield 16, 3) := by decide +kernel
theorem dX9_readsStair_54 : decode cX9_readsStair 54 = .ok (.bipush 6, 2) := by decide +kernel
theorem dX9_readsStair_56 : decode cX9_readsStair 56 = .ok (.iload_n 1, 1) := by decide +kernel
theorem dX9_readsStair_57 : decode cX9_readsStair 57 = .ok (.iadd, 1) := by decide +kernel
theorem dX9_readsStair_58 : decode cX9_readsStair 58 = .ok (.iaload, 1) := by decide +kernel
theorem dX9_readsStair_59 : decode cX9_readsStair 59 = .ok (.if_icmp .eq 31, 3) := by decide +kernel
theorem dX9_readsStair_62 : decode cX9_readsStair 62 = .ok (.aload_n 0, 1) := by decide +kernel
theorem dX9_readsStair_63 : decode cX9_readsStair 63 = .ok (.bipush 20, 2) := by decide +kernel
theorem dX9_readsStair_65 : decode cX9_readsStair 65 = .ok (.iload_n 1, 1) := by decide +kernel
theorem dX9_readsStair_66 : decode cX9_readsStair 66 = .ok (.iadd, 1) := by decide +kernel
theorem dX9_readsStair_67 : decode cX9_readsStair 67 = .ok (.iconst 1, 1) := by decide +kernel
theorem dX9_readsStair_68 : decode cX9_readsStair 68 = .ok (.bipush 99, 2) := by decide +kernel
theorem dX9_readsStair_70 : decode cX9_readsStair 70 = .ok (.invokevirtual 88, 3) := by decide +kernel
theorem dX9_readsStair_73 : decode cX9_readsStair 73 = .ok (.ifCond .eq 17, 3) := by decide +kernel
theorem dX9_readsStair_76 : decode cX9_readsStair 76 = .ok (.aload_n 0, 1) := by decide +kernel
theorem dX9_readsStair_77 : decode cX9_readsStair 77 = .ok (.bipush 27, 2) := by decide +kernel
theorem dX9_readsStair_79 : decode cX9_readsStair 79 = .ok (.iload_n 1, 1) := by decide +kernel
theorem dX9_readsStair_80 : decode cX9_readsStair 80 = .ok (.iadd, 1) := by decide +kernel
theorem dX9_readsStair_81 : decode cX9_readsStair 81 = .ok (.iconst 0, 1) := by decide +kernel
theorem dX9_readsStair_82 : decode cX9_readsStair 82 = .ok (.bipush 40, 2) := by decide +kernel
theorem dX9_readsStair_84 : decode cX9_readsStair 84 = .ok (.invokevirtual 88, 3) := by decide +kernel
theorem dX9_readsStair_87 : decode cX9_readsStair 87 = .ok (.ifCond .ne 5, 3) := by decide +kernel
theorem dX9_readsStair_90 : decode cX9_readsStair 90 = .ok (.iconst 0, 1) := by decide +kernel
theorem dX9_readsStair_91 : decode cX9_readsStair 91 = .ok (.ireturn, 1) := by decide +kernel
theorem dX9_readsStair_92 : decode cX9_readsStair 92 = .ok (.aload_n 0, 1) := by decide +kernel
theorem dX9_readsStair_93 : decode cX9_readsStair 93 = .ok (.getfield 16, 3) := by decide +kernel
theorem dX9_readsStair_96 : decode cX9_readsStair 96 = .ok (.iconst 0, 1) := by decide +kernel
theorem dX9_readsStair_97 : decode cX9_readsStair 97 = .ok (.dup2, 1) := by decide +kernel
theorem dX9_readsStair_98 : decode cX9_readsStair 98 = .ok (.iaload, 1) := by decide +kernel
theorem dX9_readsStair_99 : decode cX9_readsStair 99 = .ok (.iconst 1, 1) := by decide +kernel
theorem dX9_readsStair_100 : decode cX9_readsStair 100 = .ok (.iadd, 1) := by decide +kernel
theorem dX9_readsStair_101 : decode cX9_readsStair 101 = .ok (.iastore, 1) := by decide +kernel
theorem dX9_readsStair_102 : decode cX9_readsStair 102 = .ok (.iconst 1, 1) := by decide +kernel
theorem dX9_readsStair_103 : decode cX9_readsStair 103 = .ok (.ireturn, 1) := by decide +kernel
theorem dX9_readsPerson_0 : decode cX9_readsPerson 0 = .ok (.aload_n 0, 1) := by decide +kernel
theorem dX9_readsPerson_1 : decode cX9_readsPerson 1 = .ok (.getfield 16, 3) := by decide +kernel
theorem dX9_readsPerson_4 : decode cX9_readsPerson 4 = .ok (.iconst 1, 1) := by decide +kernel
theorem dX9_readsPerson_5 : decode cX9_readsPerson 5 = .ok (.iaload, 1) := by decide +kernel
theorem dX9_readsPerson_6 : decode cX9_readsPerson 6 = .ok (.istore_n 1, 1) := by decide +kernel
theorem dX9_readsPerson_7 : decode cX9_readsPerson 7 = .ok (.iload_n 1, 1) := by decide +kernel
theorem dX9_readsPerson_8 : decode cX9_readsPerson 8 = .ok (.iconst 5, 1) := by decide +kernel
theorem dX9_readsPerson_9 : decode cX9_readsPerson 9 = .ok (.if_icmp .eq 44, 3) := by decide +kernel
theorem dX9_readsPerson_12 : decode cX9_readsPerson 12 = .ok (.aload_n 0, 1) := by decide +kernel
theorem dX9_readsPerson_13 : decode cX9_readsPerson 13 = .ok (.bipush 34, 2) := by decide +kernel
theorem dX9_readsPerson_15 : decode cX9_readsPerson 15 = .ok (.iload_n 1, 1) := by decide +kernel
theorem dX9_readsPerson_16 : decode cX9_readsPerson 16 = .ok (.iadd, 1) := by decide +kernel
theorem dX9_readsPerson_17 : decode cX9_readsPerson 17 = .ok (.iconst 0, 1) := by decide +kernel
theorem dX9_readsPerson_18 : decode cX9_readsPerson 18 = .ok (.iconst 1, 1) := by decide +kernel
theorem dX9_readsPerson_19 : decode cX9_readsPerson 19 = .ok (.invokevirtual 88, 3) := by decide +kernel
theorem dX9_readsPerson_22 : decode cX9_readsPerson 22 = .ok (.ifCond .eq 31, 3) := by decide +kernel
theorem dX9_readsPerson_25 : decode cX9_readsPerson 25 = .ok (.aload_n 0, 1) := by decide +kernel
theorem dX9_readsPerson_26 : decode cX9_readsPerson 26 = .ok (.bipush 39, 2) := by decide +kernel
theorem dX9_readsPerson_28 : decode cX9_readsPerson 28 = .ok (.iload_n 1, 1) := by decide +kernel
theorem dX9_readsPerson_29 : decode cX9_readsPerson 29 = .ok (.iadd, 1) := by decide +kernel
theorem dX9_readsPerson_30 : decode cX9_readsPerson 30 = .ok (.iconst 0, 1) := by decide +kernel
theorem dX9_readsPerson_31 : decode cX9_readsPerson 31 = .ok (.bipush 10, 2) := by decide +kernel
theorem dX9_readsPerson_33 : decode cX9_readsPerson 33 = .ok (.invokevirtual 88, 3) := by decide +kernel
theorem dX9_readsPerson_36 : decode cX9_readsPerson 36 = .ok (.ifCond .eq 17, 3) := by decide +kernel
theorem dX9_readsPerson_39 : decode cX9_readsPerson 39 = .ok (.aload_n 0, 1) := by decide +kernel
theorem dX9_readsPerson_40 : decode cX9_readsPerson 40 = .ok (.bipush 44, 2) := by decide +kernel
theorem dX9_readsPerson_42 : decode cX9_readsPerson 42 = .ok (.iload_n 1, 1) := by decide +kernel
theorem dX9_readsPerson_43 : decode cX9_readsPerson 43 = .ok (.iadd, 1) := by decide +kernel
theorem dX9_readsPerson_44 : decode cX9_readsPerson 44 = .ok (.iconst 0, 1) := by decide +kernel
theorem dX9_readsPerson_45 : decode cX9_readsPerson 45 = .ok (.bipush 9, 2) := by decide +kernel
theorem dX9_readsPerson_47 : decode cX9_readsPerson 47 = .ok (.invokevirtual 88, 3) := by decide +kernel
theorem dX9_readsPerson_50 : decode cX9_readsPerson 50 = .ok (.ifCond .ne 5, 3) := by decide +kernel
theorem dX9_readsPerson_53 : decode cX9_readsPerson 53 = .ok (.iconst 0, 1) := by decide +kernel
theorem dX9_readsPerson_54 : decode cX9_readsPerson 54 = .ok (.ireturn, 1) := by decide +kernel
theorem dX9_readsPerson_55 : decode cX9_readsPerson 55 = .ok (.aload_n 0, 1) := by decide +kernel
theorem dX9_readsPerson_56 : decode cX9_readsPerson 56 = .ok (.getfield 16, 3) := by decide +kernel
theorem dX9_readsPerson_59 : decode cX9_readsPerson 59 = .ok (.iconst 1, 1) := by decide +kernel
theorem dX9_readsPerson_60 : decode cX9_readsPerson 60 = .ok (.dup2, 1) := by decide +kernel
theorem dX9_readsPerson_61 : decode cX9_readsPerson 61 = .ok (.iaload, 1) := by decide +kernel
theorem dX9_readsPerson_62 : decode cX9_readsPerson 62 = .ok (.iconst 1, 1) := by decide +kernel
theorem dX9_readsPerson_63 : decode cX9_readsPerson 63 = .ok (.iadd, 1) := by decide +kernel
theorem dX9_readsPerson_64 : decode cX9_readsPerson 64 = .ok (.iastore, 1) := by decide +kernel
theorem dX9_readsPerson_65 : decode cX9_readsPerson 65 = .ok (.iconst 1, 1) := by decide +kernel
theorem dX9_readsPerson_66 : decode cX9_readsPerson 66 = .ok (.ireturn, 1) := by decide +kernel
theorem dX9_once_0 : decode cX9_once 0 = .ok (.aload_n 0, 1) := by decide +kernel
theorem dX9_once_1 : decode cX9_once 1 = .ok (.getfield 16, 3) := by decide +kernel
theorem dX9_once_4 : decode cX9_once 4 = .ok (.iconst 5, 1) := by decide +kernel
theorem dX9_once_5 : decode cX9_once 5 = .ok (.iaload, 1) := by decide +kernel
theorem dX9_once_6 : decode cX9_once 6 = .ok (.iload_n 1, 1) := by decide +kernel
theorem dX9_once_7 : decode cX9_once 7 = .ok (.iand, 1) := by decide +kernel
theorem dX9_once_8 : decode cX9_once 8 = .ok (.ifCond .eq 5, 3) := by decide +kernel
theorem dX9_once_11 : decode cX9_once 11 = .ok (.iconst 0, 1) := by decide +kernel
theorem dX9_once_12 : decode cX9_once 12 = .ok (.ireturn, 1) := by decide +kernel
theorem dX9_once_13 : decode cX9_once 13 = .ok (.aload_n 0, 1) := by decide +kernel
theorem dX9_once_14 : decode cX9_once 14 = .ok (.getfield 16, 3) := by decide +kernel
theorem dX9_once_17 : decode cX9_once 17 = .ok (.iconst 5, 1) := by decide +kernel
theorem dX9_once_18 : decode cX9_once 18 = .ok (.dup2, 1) := by decide +kernel
theorem dX9_once_19 : decode cX9_once 19 = .ok (.iaload, 1) := by decide +kernel
theorem dX9_once_20 : decode cX9_once 20 = .ok (.iload_n 1, 1) := by decide +kernel
theorem dX9_once_21 : decode cX9_once 21 = .ok (.ior, 1) := by decide +kernel
theorem dX9_once_22 : decode cX9_once 22 = .ok (.iastore, 1) := by decide +kernel
theorem dX9_once_23 : decode cX9_once 23 = .ok (.aload_n 0, 1) := by decide +kernel
theorem dX9_once_24 : decode cX9_once 24 = .ok (.iload_n 2, 1) := by decide +kernel
theorem dX9_once_25 : decode cX9_once 25 = .ok (.iconst 0, 1) := by decide +kernel
theorem dX9_once_26 : decode cX9_once 26 = .ok (.bipush 9, 2) := by decide +kernel
theorem dX9_once_28 : decode cX9_once 28 = .ok (.invokevirtual 88, 3) := by decide +kernel
theorem dX9_once_31 : decode cX9_once 31 = .ok (.ireturn, 1) := by decide +kernel
theorem dX9_readsItem_0 : decode cX9_readsItem 0 = .ok (.aload_n 0, 1) := by decide +kernel
theorem dX9_readsItem_1 : decode cX9_readsItem 1 = .ok (.getfield 79, 3) := by decide +kernel
theorem dX9_readsItem_4 : decode cX9_readsItem 4 = .ok (.iconst 1, 1) := by decide +kernel
theorem dX9_readsItem_5 : decode cX9_readsItem 5 = .ok (.if_icmp .ne 10, 3) := by decide +kernel
theorem dX9_readsItem_8 : decode cX9_readsItem 8 = .ok (.aload_n 0, 1) := by decide +kernel
theorem dX9_readsItem_9 : decode cX9_readsItem 9 = .ok (.getfield 82, 3) := by decide +kernel
theorem dX9_readsItem_12 : decode cX9_readsItem 12 = .ok (.goto 4, 3) := by decide +kernel
theorem dX9_readsItem_15 : decode cX9_readsItem 15 = .ok (.iconst 0, 1) := by decide +kernel
theorem dX9_readsItem_16 : decode cX9_readsItem 16 = .ok (.istore_n 1, 1) := by decide +kernel
theorem dX9_readsItem_17 : decode cX9_readsItem 17 = .ok (.iload_n 1, 1) := by decide +kernel
theorem dX9_readsItem_18 : decode cX9_readsItem 18 = .ok (.lookupswitch 66 #[(100, 52), (112, 47), (115, 42), (116, 59)], 42) := by decide +kernel
theorem dX9_readsItem_60 : decode cX9_readsItem 60 = .ok (.aload_n 0, 1) := by decide +kernel
theorem dX9_readsItem_61 : decode cX9_readsItem 61 = .ok (.invokevirtual 91, 3) := by decide +kernel
theorem dX9_readsItem_64 : decode cX9_readsItem 64 = .ok (.ireturn, 1) := by decide +kernel
theorem dX9_readsItem_65 : decode cX9_readsItem 65 = .ok (.aload_n 0, 1) := by decide +kernel
theorem dX9_readsItem_66 : decode cX9_readsItem 66 = .ok (.invokevirtual 94, 3) := by decide +kernel
theorem dX9_readsItem_69 : decode cX9_readsItem 69 = .ok (.ireturn, 1) := by decide +kernel
theorem dX9_readsItem_70 : decode cX9_readsItem 70 = .ok (.aload_n 0, 1) := by decide +kernel
theorem dX9_readsItem_71 : decode cX9_readsItem 71 = .ok (.iconst 1, 1) := by decide +kernel
theorem dX9_readsItem_72 : decode cX9_readsItem 72 = .ok (.iconst 2, 1) := by decide +kernel
theorem dX9_readsItem_73 : decode cX9_readsItem 73 = .ok (.invokevirtual 97, 3) := by decide +kernel
theorem dX9_readsItem_76 : decode cX9_readsItem 76 = .ok (.ireturn, 1) := by decide +kernel
theorem dX9_readsItem_77 : decode cX9_readsItem 77 = .ok (.aload_n 0, 1) := by decide +kernel
theorem dX9_readsItem_78 : decode cX9_readsItem 78 = .ok (.iconst 2, 1) := by decide +kernel
theorem dX9_readsItem_79 : decode cX9_readsItem 79 = .ok (.iconst 3, 1) := by decide +kernel
theorem dX9_readsItem_80 : decode cX9_readsItem 80 = .ok (.invokevirtual 97, 3) := by decide +kernel
theorem dX9_readsItem_83 : decode cX9_readsItem 83 = .ok (.ireturn, 1) := by decide +kernel
theorem dX9_readsItem_84 : decode cX9_readsItem 84 = .ok (.iconst 0, 1) := by decide +kernel
theorem dX9_readsItem_85 : decode cX9_readsItem 85 = .ok (.ireturn, 1) := by decide +kernel
theorem dX9_reads_0 : decode cX9_reads 0 = .ok (.iconst 0, 1) := by decide +kernel
theorem dX9_reads_1 : decode cX9_reads 1 = .ok (.istore_n 1, 1) := by decide +kernel
theorem dX9_reads_2 : decode cX9_reads 2 = .ok (.iload_n 1, 1) := by decide +kernel
theorem dX9_reads_3 : decode cX9_reads 3 = .ok (.bipush 49, 2) := by decide +kernel
theorem dX9_reads_5 : decode cX9_reads 5 = .ok (.if_icmp .ge 16, 3) := by decide +kernel
theorem dX9_reads_8 : decode cX9_reads 8 = .ok (.aload_n 0, 1) := by decide +kernel
theorem dX9_reads_9 : decode cX9_reads 9 = .ok (.getfield 16, 3) := by decide +kernel
theorem dX9_reads_12 : decode cX9_reads 12 = .ok (.iload_n 1, 1) := by decide +kernel
theorem dX9_reads_13 : decode cX9_reads 13 = .ok (.iconst 0, 1) := by decide +kernel
theorem dX9_reads_14 : decode cX9_reads 14 = .ok (.iastore, 1) := by decide +kernel
theorem dX9_reads_15 : decode cX9_reads 15 = .ok (.iinc 1 1, 3) := by decide +kernel
theorem dX9_reads_18 : decode cX9_reads 18 = .ok (.goto (-16), 3) := by decide +kernel
theorem dX9_reads_21 : decode cX9_reads 21 = .ok (.aload_n 0, 1) := by decide +kernel
theorem dX9_reads_22 : decode cX9_reads 22 = .ok (.getfield 16, 3) := by decide +kernel
theorem dX9_reads_25 : decode cX9_reads 25 = .ok (.iconst 2, 1) := by decide +kernel
theorem dX9_reads_26 : decode cX9_reads 26 = .ok (.iconst 3, 1) := by decide +kernel
theorem dX9_reads_27 : decode cX9_reads 27 = .ok (.iastore, 1) := by decide +kernel
theorem dX9_reads_28 : decode cX9_reads 28 = .ok (.aload_n 0, 1) := by decide +kernel
theorem dX9_reads_29 : decode cX9_reads 29 = .ok (.getfield 16, 3) := by decide +kernel
theorem dX9_reads_32 : decode cX9_reads 32 = .ok (.iconst 3, 1) := by decide +kernel
theorem dX9_reads_33 : decode cX9_reads 33 = .ok (.iconst 3, 1) := by decide +kernel
theorem dX9_reads_34 : decode cX9_reads 34 = .ok (.iastore, 1) := by decide +kernel
theorem dX9_reads_35 : decode cX9_reads 35 = .ok (.aload_n 0, 1) := by decide +kernel
theorem dX9_reads_36 : decode cX9_reads 36 = .ok (.iconst 0, 1) := by decide +kernel
theorem dX9_reads_37 : decode cX9_reads 37 = .ok (.putfield 62, 3) := by decide +kernel
theorem dX9_reads_40 : decode cX9_reads 40 = .ok (.aload_n 0, 1) := by decide +kernel
theorem dX9_reads_41 : decode cX9_reads 41 = .ok (.invokevirtual 85, 3) := by decide +kernel
theorem dX9_reads_44 : decode cX9_reads 44 = .ok (.aload_n 0, 1) := by decide +kernel
theorem dX9_reads_45 : decode cX9_reads 45 = .ok (.getfield 79, 3) := by decide +kernel
theorem dX9_reads_48 : decode cX9_reads 48 = .ok (.ifCond .eq 43, 3) := by decide +kernel
theorem dX9_reads_51 : decode cX9_reads 51 = .ok (.aload_n 0, 1) := by decide +kernel
theorem dX9_reads_52 : decode cX9_reads 52 = .ok (.invokevirtual 101, 3) := by decide +kernel
theorem dX9_reads_55 : decode cX9_reads 55 = .ok (.ifCond .ne 5, 3) := by decide +kernel
theorem dX9_reads_58 : decode cX9_reads 58 = .ok (.iconst 0, 1) := by decide +kernel
theorem dX9_reads_59 : decode cX9_reads 59 = .ok (.ireturn, 1) := by decide +kernel
theorem dX9_reads_60 : decode cX9_reads 60 = .ok (.aload_n 0, 1) := by decide +kernel
theorem dX9_reads_61 : decode cX9_reads 61 = .ok (.invokevirtual 85, 3) := by decide +kernel
theorem dX9_reads_64 : decode cX9_reads 64 = .ok (.aload_n 0, 1) := by decide +kernel
theorem dX9_reads_65 : decode cX9_reads 65 = .ok (.getfield 79, 3) := by decide +kernel
theorem dX9_reads_68 : decode cX9_reads 68 = .ok (.iconst 3, 1) := by decide +kernel
theorem dX9_reads_69 : decode cX9_reads 69 = .ok (.if_icmp .eq 5, 3) := by decide +kernel
theorem dX9_reads_72 : decode cX9_reads 72 = .ok (.iconst 0, 1) := by decide +kernel
theorem dX9_reads_73 : decode cX9_reads 73 = .ok (.ireturn, 1) := by decide +kernel
theorem dX9_reads_74 : decode cX9_reads 74 = .ok (.aload_n 0, 1) := by decide +kernel
theorem dX9_reads_75 : decode cX9_reads 75 = .ok (.getfield 16, 3) := by decide +kernel
theorem dX9_reads_78 : decode cX9_reads 78 = .ok (.iconst 4, 1) := by decide +kernel
theorem dX9_reads_79 : decode cX9_reads 79 = .ok (.dup2, 1) := by decide +kernel
theorem dX9_reads_80 : decode cX9_reads 80 = .ok (.iaload, 1) := by decide +kernel
theorem dX9_reads_81 : decode cX9_reads 81 = .ok (.iconst 1, 1) := by decide +kernel
theorem dX9_reads_82 : decode cX9_reads 82 = .ok (.iadd, 1) := by decide +kernel
theorem dX9_reads_83 : decode cX9_reads 83 = .ok (.iastore, 1) := by decide +kernel
theorem dX9_reads_84 : decode cX9_reads 84 = .ok (.aload_n 0, 1) := by decide +kernel
theorem dX9_reads_85 : decode cX9_reads 85 = .ok (.invokevirtual 85, 3) := by decide +kernel
theorem dX9_reads_88 : decode cX9_reads 88 = .ok (.goto (-44), 3) := by decide +kernel
theorem dX9_reads_91 : decode cX9_reads 91 = .ok (.iconst 1, 1) := by decide +kernel
theorem dX9_reads_92 : decode cX9_reads 92 = .ok (.ireturn, 1) := by decide +kernel
theorem dX9_tells_0 : decode cX9_tells 0 = .ok (.iconst 0, 1) := by decide +kernel
theorem dX9_tells_1 : decode cX9_tells 1 = .ok (.istore_n 1, 1) := by decide +kernel
theorem dX9_tells_2 : decode cX9_tells 2 = .ok (.iload_n 1, 1) := by decide +kernel
theorem dX9_tells_3 : decode cX9_tells 3 = .ok (.bipush 49, 2) := by decide +kernel
theorem dX9_tells_5 : decode cX9_tells 5 = .ok (.if_icmp .ge 21, 3) := by decide +kernel
theorem dX9_tells_8 : decode cX9_tells 8 = .ok (.aload_n 0, 1) := by decide +kernel
theorem dX9_tells_9 : decode cX9_tells 9 = .ok (.getfield 13, 3) := by decide +kernel
theorem dX9_tells_12 : decode cX9_tells 12 = .ok (.iload_n 1, 1) := by decide +kernel
theorem dX9_tells_13 : decode cX9_tells 13 = .ok (.aload_n 0, 1) := by decide +kernel
theorem dX9_tells_14 : decode cX9_tells 14 = .ok (.getfield 16, 3) := by decide +kernel
theorem dX9_tells_17 : decode cX9_tells 17 = .ok (.iload_n 1, 1) := by decide +kernel
theorem dX9_tells_18 : decode cX9_tells 18 = .ok (.iaload, 1) := by decide +kernel
theorem dX9_tells_19 : decode cX9_tells 19 = .ok (.iastore, 1) := by decide +kernel
theorem dX9_tells_20 : decode cX9_tells 20 = .ok (.iinc 1 1, 3) := by decide +kernel
theorem dX9_tells_23 : decode cX9_tells 23 = .ok (.goto (-21), 3) := by decide +kernel
theorem dX9_tells_26 : decode cX9_tells 26 = .ok (.iconst 0, 1) := by decide +kernel
theorem dX9_tells_27 : decode cX9_tells 27 = .ok (.istore_n 1, 1) := by decide +kernel
theorem dX9_tells_28 : decode cX9_tells 28 = .ok (.iload_n 1, 1) := by decide +kernel
theorem dX9_tells_29 : decode cX9_tells 29 = .ok (.bipush 65, 2) := by decide +kernel
theorem dX9_tells_31 : decode cX9_tells 31 = .ok (.if_icmp .gt 38, 3) := by decide +kernel
theorem dX9_tells_34 : decode cX9_tells 34 = .ok (.aload_n 0, 1) := by decide +kernel
theorem dX9_tells_35 : decode cX9_tells 35 = .ok (.getfield 19, 3) := by decide +kernel
theorem dX9_tells_38 : decode cX9_tells 38 = .ok (.iload_n 1, 1) := by decide +kernel
theorem dX9_tells_39 : decode cX9_tells 39 = .ok (.iload_n 1, 1) := by decide +kernel
theorem dX9_tells_40 : decode cX9_tells 40 = .ok (.aload_n 0, 1) := by decide +kernel
theorem dX9_tells_41 : decode cX9_tells 41 = .ok (.getfield 13, 3) := by decide +kernel
theorem dX9_tells_44 : decode cX9_tells 44 = .ok (.iconst 0, 1) := by decide +kernel
theorem dX9_tells_45 : decode cX9_tells 45 = .ok (.iaload, 1) := by decide +kernel
theorem dX9_tells_46 : decode cX9_tells 46 = .ok (.if_icmp .ge 15, 3) := by decide +kernel
theorem dX9_tells_49 : decode cX9_tells 49 = .ok (.aload_n 0, 1) := by decide +kernel
theorem dX9_tells_50 : decode cX9_tells 50 = .ok (.getfield 13, 3) := by decide +kernel
theorem dX9_tells_53 : decode cX9_tells 53 = .ok (.bipush 27, 2) := by decide +kernel
theorem dX9_tells_55 : decode cX9_tells 55 = .ok (.iload_n 1, 1) := by decide +kernel
theorem dX9_tells_56 : decode cX9_tells 56 = .ok (.iadd, 1) := by decide +kernel
theorem dX9_tells_57 : decode cX9_tells 57 = .ok (.iaload, 1) := by decide +kernel
theorem dX9_tells_58 : decode cX9_tells 58 = .ok (.goto 4, 3) := by decide +kernel
theorem dX9_tells_61 : decode cX9_tells 61 = .ok (.iconst 0, 1) := by decide +kernel
theorem dX9_tells_62 : decode cX9_tells 62 = .ok (.iastore, 1) := by decide +kernel
theorem dX9_tells_63 : decode cX9_tells 63 = .ok (.iinc 1 1, 3) := by decide +kernel
theorem dX9_tells_66 : decode cX9_tells 66 = .ok (.goto (-38), 3) := by decide +kernel
theorem dX9_tells_69 : decode cX9_tells 69 = .ok (.aload_n 0, 1) := by decide +kernel
theorem dX9_tells_70 : decode cX9_tells 70 = .ok (.getfield 25, 3) := by decide +kernel
theorem dX9_tells_73 : decode cX9_tells 73 = .ok (.iconst 0, 1) := by decide +kernel
theorem dX9_tells_74 : decode cX9_tells 74 = .ok (.iconst 0, 1) := by decide +kernel
theorem dX9_tells_75 : decode cX9_tells 75 = .ok (.bastore, 1) := by decide +kernel
theorem dX9_tells_76 : decode cX9_tells 76 = .ok (.aload_n 0, 1) := by decide +kernel
theorem dX9_tells_77 : decode cX9_tells 77 = .ok (.getfield 25, 3) := by decide +kernel
theorem dX9_tells_80 : decode cX9_tells 80 = .ok (.iconst 1, 1) := by decide +kernel
theorem dX9_tells_81 : decode cX9_tells 81 = .ok (.iconst 0, 1) := by decide +kernel
theorem dX9_tells_82 : decode cX9_tells 82 = .ok (.bastore, 1) := by decide +kernel
theorem dX9_tells_83 : decode cX9_tells 83 = .ok (.return_, 1) := by decide +kernel
theorem dX9_house_0 : decode cX9_house 0 = .ok (.aload_n 0, 1) := by decide +kernel
theorem dX9_house_1 : decode cX9_house 1 = .ok (.invokevirtual 47, 3) := by decide +kernel
theorem dX9_house_4 : decode cX9_house 4 = .ok (.ifCond .ne 11, 3) := by decide +kernel
theorem dX9_house_7 : decode cX9_house 7 = .ok (.bipush (-10), 2) := by decide +kernel
theorem dX9_house_9 : decode cX9_house 9 = .ok (.aload_n 0, 1) := by decide +kernel
theorem dX9_house_10 : decode cX9_house 10 = .ok (.getfield 69, 3) := by decide +kernel
theorem dX9_house_13 : decode cX9_house 13 = .ok (.isub, 1) := by decide +kernel
theorem dX9_house_14 : decode cX9_house 14 = .ok (.ireturn, 1) := by decide +kernel
theorem dX9_house_15 : decode cX9_house 15 = .ok (.aload_n 0, 1) := by decide +kernel
theorem dX9_house_16 : decode cX9_house 16 = .ok (.invokevirtual 51, 3) := by decide +kernel
theorem dX9_house_19 : decode cX9_house 19 = .ok (.aload_n 0, 1) := by decide +kernel
theorem dX9_house_20 : decode cX9_house 20 = .ok (.iconst 0, 1) := by decide +kernel
theorem dX9_house_21 : decode cX9_house 21 = .ok (.putfield 58, 3) := by decide +kernel
theorem dX9_house_24 : decode cX9_house 24 = .ok (.aload_n 0, 1) := by decide +kernel
theorem dX9_house_25 : decode cX9_house 25 = .ok (.getfield 13, 3) := by decide +kernel
theorem dX9_house_28 : decode cX9_house 28 = .ok (.iconst 4, 1) := by decide +kernel
theorem dX9_house_29 : decode cX9_house 29 = .ok (.iaload, 1) := by decide +kernel
theorem dX9_house_30 : decode cX9_house 30 = .ok (.ireturn, 1) := by decide +kernel
theorem dX9_price_0 : decode cX9_price 0 = .ok (.bipush 9, 2) := by decide +kernel
theorem dX9_price_2 : decode cX9_price 2 = .ok (.aload_n 0, 1) := by decide +kernel
theorem dX9_price_3 : decode cX9_price 3 = .ok (.getfield 19, 3) := by decide +kernel
theorem dX9_price_6 : decode cX9_price 6 = .ok (.iload_n 1, 1) := by decide +kernel
theorem dX9_price_7 : decode cX9_price 7 = .ok (.iaload, 1) := by decide +kernel
theorem dX9_price_8 : decode cX9_price 8 = .ok (.imul, 1) := by decide +kernel
theorem dX9_price_9 : decode cX9_price 9 = .ok (.aload_n 0, 1) := by decide +kernel
theorem dX9_price_10 : decode cX9_price 10 = .ok (.getfield 13, 3) := by decide +kernel
theorem dX9_price_13 : decode cX9_price 13 = .ok (.bipush 20, 2) := by decide +kernel
theorem dX9_price_15 : decode cX9_price 15 = .ok (.iload_n 1, 1) := by decide +kernel
theorem dX9_price_16 : decode cX9_price 16 = .ok (.iadd, 1) := by decide +kernel
theorem dX9_price_17 : decode cX9_price 17 = .ok (.iaload, 1) := by decide +kernel
theorem dX9_price_18 : decode cX9_price 18 = .ok (.isub, 1) := by decide +kernel
theorem dX9_price_19 : decode cX9_price 19 = .ok (.istore_n 2, 1) := by decide +kernel
theorem dX9_price_20 : decode cX9_price 20 = .ok (.iload_n 2, 1) := by decide +kernel
theorem dX9_price_21 : decode cX9_price 21 = .ok (.ifCond .ge 7, 3) := by decide +kernel
theorem dX9_price_24 : decode cX9_price 24 = .ok (.iconst 0, 1) := by decide +kernel
theorem dX9_price_25 : decode cX9_price 25 = .ok (.goto 4, 3) := by decide +kernel
theorem dX9_price_28 : decode cX9_price 28 = .ok (.iload_n 2, 1) := by decide +kernel
theorem dX9_price_29 : decode cX9_price 29 = .ok (.ireturn, 1) := by decide +kernel
theorem dX9_stair_0 : decode cX9_stair 0 = .ok (.aload_n 0, 1) := by decide +kernel
theorem dX9_stair_1 : decode cX9_stair 1 = .ok (.iload_n 1, 1) := by decide +kernel
theorem dX9_stair_2 : decode cX9_stair 2 = .ok (.invokevirtual 104, 3) := by decide +kernel
theorem dX9_stair_5 : decode cX9_stair 5 = .ok (.ifCond .ne 5, 3) := by decide +kernel
theorem dX9_stair_8 : decode cX9_stair 8 = .ok (.iconst (-1), 1) := by decide +kernel
theorem dX9_stair_9 : decode cX9_stair 9 = .ok (.ireturn, 1) := by decide +kernel
theorem dX9_stair_10 : decode cX9_stair 10 = .ok (.iload_n 2, 1) := by decide +kernel
theorem dX9_stair_11 : decode cX9_stair 11 = .ok (.tableswitch 104 0 6 #[41, 51, 61, 71, 81, 88, 98], 41) := by decide +kernel
theorem dX9_stair_52 : decode cX9_stair 52 = .ok (.aload_n 0, 1) := by decide +kernel
theorem dX9_stair_53 : decode cX9_stair 53 = .ok (.getfield 13, 3) := by decide +kernel
theorem dX9_stair_56 : decode cX9_stair 56 = .ok (.bipush 6, 2) := by decide +kernel
theorem dX9_stair_58 : decode cX9_stair 58 = .ok (.iload_n 1, 1) := by decide +kernel
theorem dX9_stair_59 : decode cX9_stair 59 = .ok (.iadd, 1) := by decide +kernel
theorem dX9_stair_60 : decode cX9_stair 60 = .ok (.iaload, 1) := by decide +kernel
theorem dX9_stair_61 : decode cX9_stair 61 = .ok (.ireturn, 1) := by decide +kernel
theorem dX9_stair_62 : decode cX9_stair 62 = .ok (.aload_n 0, 1) := by decide +kernel
theorem dX9_stair_63 : decode cX9_stair 63 = .ok (.getfield 13, 3) := by decide +kernel
theorem dX9_stair_66 : decode cX9_stair 66 = .ok (.bipush 13, 2) := by decide +kernel
theorem dX9_stair_68 : decode cX9_stair 68 = .ok (.iload_n 1, 1) := by decide +kernel
theorem dX9_stair_69 : decode cX9_stair 69 = .ok (.iadd, 1) := by decide +kernel
theorem dX9_stair_70 : decode cX9_stair 70 = .ok (.iaload, 1) := by decide +kernel
theorem dX9_stair_71 : decode cX9_stair 71 = .ok (.ireturn, 1) := by decide +kernel
theorem dX9_stair_72 : decode cX9_stair 72 = .ok (.aload_n 0, 1) := by decide +kernel
theorem dX9_stair_73 : decode cX9_stair 73 = .ok (.getfield 13, 3) := by decide +kernel
theorem dX9_stair_76 : decode cX9_stair 76 = .ok (.bipush 20, 2) := by decide +kernel
theorem dX9_stair_78 : decode cX9_stair 78 = .ok (.iload_n 1, 1) := by decide +kernel
theorem dX9_stair_79 : decode cX9_stair 79 = .ok (.iadd, 1) := by decide +kernel
theorem dX9_stair_80 : decode cX9_stair 80 = .ok (.iaload, 1) := by decide +kernel
theorem dX9_stair_81 : decode cX9_stair 81 = .ok (.ireturn, 1) := by decide +kernel
theorem dX9_stair_82 : decode cX9_stair 82 = .ok (.aload_n 0, 1) := by decide +kernel
theorem dX9_stair_83 : decode cX9_stair 83 = .ok (.getfield 13, 3) := by decide +kernel
theorem dX9_stair_86 : decode cX9_stair 86 = .ok (.bipush 27, 2) := by decide +kernel
theorem dX9_stair_88 : decode cX9_stair 88 = .ok (.iload_n 1, 1) := by decide +kernel
theorem dX9_stair_89 : decode cX9_stair 89 = .ok (.iadd, 1) := by decide +kernel
theorem dX9_stair_90 : decode cX9_stair 90 = .ok (.iaload, 1) := by decide +kernel
theorem dX9_stair_91 : decode cX9_stair 91 = .ok (.ireturn, 1) := by decide +kernel
theorem dX9_stair_92 : decode cX9_stair 92 = .ok (.aload_n 0, 1) := by decide +kernel
theorem dX9_stair_93 : decode cX9_stair 93 = .ok (.getfield 19, 3) := by decide +kernel
theorem dX9_stair_96 : decode cX9_stair 96 = .ok (.iload_n 1, 1) := by decide +kernel
theorem dX9_stair_97 : decode cX9_stair 97 = .ok (.iaload, 1) := by decide +kernel
theorem dX9_stair_98 : decode cX9_stair 98 = .ok (.ireturn, 1) := by decide +kernel
theorem dX9_stair_99 : decode cX9_stair 99 = .ok (.aload_n 0, 1) := by decide +kernel
theorem dX9_stair_100 : decode cX9_stair 100 = .ok (.getfield 19, 3) := by decide +kernel
theorem dX9_stair_103 : decode cX9_stair 103 = .ok (.bipush 7, 2) := by decide +kernel
theorem dX9_stair_105 : decode cX9_stair 105 = .ok (.iload_n 1, 1) := by decide +kernel
theorem dX9_stair_106 : decode cX9_stair 106 = .ok (.iadd, 1) := by decide +kernel
theorem dX9_stair_107 : decode cX9_stair 107 = .ok (.iaload, 1) := by decide +kernel
theorem dX9_stair_108 : decode cX9_stair 108 = .ok (.ireturn, 1) := by decide +kernel
theorem dX9_stair_109 : decode cX9_stair 109 = .ok (.aload_n 0, 1) := by decide +kernel
theorem dX9_stair_110 : decode cX9_stair 110 = .ok (.iload_n 1, 1) := by decide +kernel
theorem dX9_stair_111 : decode cX9_stair 111 = .ok (.invokevirtual 107, 3) := by decide +kernel
theorem dX9_stair_114 : decode cX9_stair 114 = .ok (.ireturn, 1) := by decide +kernel
theorem dX9_stair_115 : decode cX9_stair 115 = .ok (.iconst (-1), 1) := by decide +kernel
theorem dX9_stair_116 : decode cX9_stair 116 = .ok (.ireturn, 1) := by decide +kernel
theorem dX9_person_0 : decode cX9_person 0 = .ok (.aload_n 0, 1) := by decide +kernel
theorem dX9_person_1 : decode cX9_person 1 = .ok (.iload_n 1, 1) := by decide +kernel
theorem dX9_person_2 : decode cX9_person 2 = .ok (.invokevirtual 110, 3) := by decide +kernel
theorem dX9_person_5 : decode cX9_person 5 = .ok (.ifCond .eq 12, 3) := by decide +kernel
theorem dX9_person_8 : decode cX9_person 8 = .ok (.iload_n 2, 1) := by decide +kernel
theorem dX9_person_9 : decode cX9_person 9 = .ok (.iconst 0, 1) := by decide +kernel
theorem dX9_person_10 : decode cX9_person 10 = .ok (.iconst 2, 1) := by decide +kernel
theorem dX9_person_11 : decode cX9_person 11 = .ok (.invokestatic 54, 3) := by decide +kernel
theorem dX9_person_14 : decode cX9_person 14 = .ok (.ifCond .ne 5, 3) := by decide +kernel
theorem dX9_person_17 : decode cX9_person 17 = .ok (.iconst (-1), 1) := by decide +kernel
theorem dX9_person_18 : decode cX9_person 18 = .ok (.ireturn, 1) := by decide +kernel
theorem dX9_person_19 : decode cX9_person 19 = .ok (.aload_n 0, 1) := by decide +kernel
theorem dX9_person_20 : decode cX9_person 20 = .ok (.getfield 13, 3) := by decide +kernel
theorem dX9_person_23 : decode cX9_person 23 = .ok (.bipush 34, 2) := by decide +kernel
theorem dX9_person_25 : decode cX9_person 25 = .ok (.iconst 5, 1) := by decide +kernel
theorem dX9_person_26 : decode cX9_person 26 = .ok (.iload_n 2, 1) := by decide +kernel
theorem dX9_person_27 : decode cX9_person 27 = .ok (.imul, 1) := by decide +kernel
theorem dX9_person_28 : decode cX9_person 28 = .ok (.iadd, 1) := by decide +kernel
theorem dX9_person_29 : decode cX9_person 29 = .ok (.iload_n 1, 1) := by decide +kernel
theorem dX9_person_30 : decode cX9_person 30 = .ok (.iadd, 1) := by decide +kernel
theorem dX9_person_31 : decode cX9_person 31 = .ok (.iaload, 1) := by decide +kernel
theorem dX9_person_32 : decode cX9_person 32 = .ok (.ireturn, 1) := by decide +kernel
theorem dX9_bond_0 : decode cX9_bond 0 = .ok (.aload_n 0, 1) := by decide +kernel
theorem dX9_bond_1 : decode cX9_bond 1 = .ok (.iload_n 1, 1) := by decide +kernel
theorem dX9_bond_2 : decode cX9_bond 2 = .ok (.invokevirtual 104, 3) := by decide +kernel
theorem dX9_bond_5 : decode cX9_bond 5 = .ok (.ifCond .eq 33, 3) := by decide +kernel
theorem dX9_bond_8 : decode cX9_bond 8 = .ok (.aload_n 0, 1) := by decide +kernel
theorem dX9_bond_9 : decode cX9_bond 9 = .ok (.iload_n 2, 1) := by decide +kernel
theorem dX9_bond_10 : decode cX9_bond 10 = .ok (.invokevirtual 104, 3) := by decide +kernel
theorem dX9_bond_13 : decode cX9_bond 13 = .ok (.ifCond .eq 25, 3) := by decide +kernel
theorem dX9_bond_16 : decode cX9_bond 16 = .ok (.iload_n 1, 1) := by decide +kernel
theorem dX9_bond_17 : decode cX9_bond 17 = .ok (.iload_n 2, 1) := by decide +kernel
theorem dX9_bond_18 : decode cX9_bond 18 = .ok (.if_icmp .eq 20, 3) := by decide +kernel
theorem dX9_bond_21 : decode cX9_bond 21 = .ok (.aload_n 0, 1) := by decide +kernel
theorem dX9_bond_22 : decode cX9_bond 22 = .ok (.getfield 19, 3) := by decide +kernel
theorem dX9_bond_25 : decode cX9_bond 25 = .ok (.bipush 14, 2) := by decide +kernel
theorem dX9_bond_27 : decode cX9_bond 27 = .ok (.bipush 7, 2) := by decide +kernel
theorem dX9_bond_29 : decode cX9_bond 29 = .ok (.iload_n 1, 1) := by decide +kernel
theorem dX9_bond_30 : decode cX9_bond 30 = .ok (.imul, 1) := by decide +kernel
theorem dX9_bond_31 : decode cX9_bond 31 = .ok (.iadd, 1) := by decide +kernel
theorem dX9_bond_32 : decode cX9_bond 32 = .ok (.iload_n 2, 1) := by decide +kernel
theorem dX9_bond_33 : decode cX9_bond 33 = .ok (.iadd, 1) := by decide +kernel
theorem dX9_bond_34 : decode cX9_bond 34 = .ok (.iaload, 1) := by decide +kernel
theorem dX9_bond_35 : decode cX9_bond 35 = .ok (.goto 4, 3) := by decide +kernel
theorem dX9_bond_38 : decode cX9_bond 38 = .ok (.iconst (-1), 1) := by decide +kernel
theorem dX9_bond_39 : decode cX9_bond 39 = .ok (.ireturn, 1) := by decide +kernel
theorem dX9_keeps_0 : decode cX9_keeps 0 = .ok (.aload_n 0, 1) := by decide +kernel
theorem dX9_keeps_1 : decode cX9_keeps 1 = .ok (.getfield 19, 3) := by decide +kernel
theorem dX9_keeps_4 : decode cX9_keeps 4 = .ok (.bipush 65, 2) := by decide +kernel
theorem dX9_keeps_6 : decode cX9_keeps 6 = .ok (.iaload, 1) := by decide +kernel
theorem dX9_keeps_7 : decode cX9_keeps 7 = .ok (.bipush 10, 2) := by decide +kernel
theorem dX9_keeps_9 : decode cX9_keeps 9 = .ok (.if_icmp .ne 45, 3) := by decide +kernel
theorem dX9_keeps_12 : decode cX9_keeps 12 = .ok (.bipush 66, 2) := by decide +kernel
theorem dX9_keeps_14 : decode cX9_keeps 14 = .ok (.istore_n 1, 1) := by decide +kernel
theorem dX9_keeps_15 : decode cX9_keeps 15 = .ok (.iload_n 1, 1) := by decide +kernel
theorem dX9_keeps_16 : decode cX9_keeps 16 = .ok (.sipush 651, 3) := by decide +kernel
theorem dX9_keeps_19 : decode cX9_keeps 19 = .ok (.if_icmp .ge 24, 3) := by decide +kernel
theorem dX9_keeps_22 : decode cX9_keeps 22 = .ok (.aload_n 0, 1) := by decide +kernel
theorem dX9_keeps_23 : decode cX9_keeps 23 = .ok (.getfield 19, 3) := by decide +kernel
theorem dX9_keeps_26 : decode cX9_keeps 26 = .ok (.iload_n 1, 1) := by decide +kernel
theorem dX9_keeps_27 : decode cX9_keeps 27 = .ok (.aload_n 0, 1) := by decide +kernel
theorem dX9_keeps_28 : decode cX9_keeps 28 = .ok (.getfield 19, 3) := by decide +kernel
theorem dX9_keeps_31 : decode cX9_keeps 31 = .ok (.iload_n 1, 1) := by decide +kernel
theorem dX9_keeps_32 : decode cX9_keeps 32 = .ok (.bipush 65, 2) := by decide +kernel
theorem dX9_keeps_34 : decode cX9_keeps 34 = .ok (.iadd, 1) := by decide +kernel
theorem dX9_keeps_35 : decode cX9_keeps 35 = .ok (.iaload, 1) := by decide +kernel
theorem dX9_keeps_36 : decode cX9_keeps 36 = .ok (.iastore, 1) := by decide +kernel
theorem dX9_keeps_37 : decode cX9_keeps 37 = .ok (.iinc 1 1, 3) := by decide +kernel
theorem dX9_keeps_40 : decode cX9_keeps 40 = .ok (.goto (-25), 3) := by decide +kernel
theorem dX9_keeps_43 : decode cX9_keeps 43 = .ok (.aload_n 0, 1) := by decide +kernel
theorem dX9_keeps_44 : decode cX9_keeps 44 = .ok (.getfield 19, 3) := by decide +kernel
theorem dX9_keeps_47 : decode cX9_keeps 47 = .ok (.bipush 65, 2) := by decide +kernel
theorem dX9_keeps_49 : decode cX9_keeps 49 = .ok (.dup2, 1) := by decide +kernel
theorem dX9_keeps_50 : decode cX9_keeps 50 = .ok (.iaload, 1) := by decide +kernel
theorem dX9_keeps_51 : decode cX9_keeps 51 = .ok (.iconst 1, 1) := by decide +kernel
theorem dX9_keeps_52 : decode cX9_keeps 52 = .ok (.isub, 1) := by decide +kernel
theorem dX9_keeps_53 : decode cX9_keeps 53 = .ok (.iastore, 1) := by decide +kernel
theorem dX9_keeps_54 : decode cX9_keeps 54 = .ok (.bipush 66, 2) := by decide +kernel
theorem dX9_keeps_56 : decode cX9_keeps 56 = .ok (.bipush 65, 2) := by decide +kernel
theorem dX9_keeps_58 : decode cX9_keeps 58 = .ok (.aload_n 0, 1) := by decide +kernel
theorem dX9_keeps_59 : decode cX9_keeps 59 = .ok (.getfield 19, 3) := by decide +kernel
theorem dX9_keeps_62 : decode cX9_keeps 62 = .ok (.bipush 65, 2) := by decide +kernel
theorem dX9_keeps_64 : decode cX9_keeps 64 = .ok (.iaload, 1) := by decide +kernel
theorem dX9_keeps_65 : decode cX9_keeps 65 = .ok (.imul, 1) := by decide +kernel
theorem dX9_keeps_66 : decode cX9_keeps 66 = .ok (.iadd, 1) := by decide +kernel
theorem dX9_keeps_67 : decode cX9_keeps 67 = .ok (.istore_n 1, 1) := by decide +kernel
theorem dX9_keeps_68 : decode cX9_keeps 68 = .ok (.iconst 0, 1) := by decide +kernel
theorem dX9_keeps_69 : decode cX9_keeps 69 = .ok (.istore_n 2, 1) := by decide +kernel
theorem dX9_keeps_70 : decode cX9_keeps 70 = .ok (.iload_n 2, 1) := by decide +kernel
theorem dX9_keeps_71 : decode cX9_keeps 71 = .ok (.bipush 65, 2) := by decide +kernel
theorem dX9_keeps_73 : decode cX9_keeps 73 = .ok (.if_icmp .ge 23, 3) := by decide +kernel
theorem dX9_keeps_76 : decode cX9_keeps 76 = .ok (.aload_n 0, 1) := by decide +kernel
theorem dX9_keeps_77 : decode cX9_keeps 77 = .ok (.getfield 19, 3) := by decide +kernel
theorem dX9_keeps_80 : decode cX9_keeps 80 = .ok (.iload_n 1, 1) := by decide +kernel
theorem dX9_keeps_81 : decode cX9_keeps 81 = .ok (.iload_n 2, 1) := by decide +kernel
theorem dX9_keeps_82 : decode cX9_keeps 82 = .ok (.iadd, 1) := by decide +kernel
theorem dX9_keeps_83 : decode cX9_keeps 83 = .ok (.aload_n 0, 1) := by decide +kernel
theorem dX9_keeps_84 : decode cX9_keeps 84 = .ok (.getfield 19, 3) := by decide +kernel
theorem dX9_keeps_87 : decode cX9_keeps 87 = .ok (.iload_n 2, 1) := by decide +kernel
theorem dX9_keeps_88 : decode cX9_keeps 88 = .ok (.iaload, 1) := by decide +kernel
theorem dX9_keeps_89 : decode cX9_keeps 89 = .ok (.iastore, 1) := by decide +kernel
theorem dX9_keeps_90 : decode cX9_keeps 90 = .ok (.iinc 2 1, 3) := by decide +kernel
theorem dX9_keeps_93 : decode cX9_keeps 93 = .ok (.goto (-23), 3) := by decide +kernel
theorem dX9_keeps_96 : decode cX9_keeps 96 = .ok (.aload_n 0, 1) := by decide +kernel
theorem dX9_keeps_97 : decode cX9_keeps 97 = .ok (.getfield 19, 3) := by decide +kernel
theorem dX9_keeps_100 : decode cX9_keeps 100 = .ok (.bipush 65, 2) := by decide +kernel
theorem dX9_keeps_102 : decode cX9_keeps 102 = .ok (.dup2, 1) := by decide +kernel
theorem dX9_keeps_103 : decode cX9_keeps 103 = .ok (.iaload, 1) := by decide +kernel
theorem dX9_keeps_104 : decode cX9_keeps 104 = .ok (.iconst 1, 1) := by decide +kernel
theorem dX9_keeps_105 : decode cX9_keeps 105 = .ok (.iadd, 1) := by decide +kernel
theorem dX9_keeps_106 : decode cX9_keeps 106 = .ok (.iastore, 1) := by decide +kernel
theorem dX9_keeps_107 : decode cX9_keeps 107 = .ok (.return_, 1) := by decide +kernel
theorem dX9_counts_0 : decode cX9_counts 0 = .ok (.aload_n 0, 1) := by decide +kernel
theorem dX9_counts_1 : decode cX9_counts 1 = .ok (.getfield 13, 3) := by decide +kernel
theorem dX9_counts_4 : decode cX9_counts 4 = .ok (.bipush 34, 2) := by decide +kernel
theorem dX9_counts_6 : decode cX9_counts 6 = .ok (.iload_n 1, 1) := by decide +kernel
theorem dX9_counts_7 : decode cX9_counts 7 = .ok (.iadd, 1) := by decide +kernel
theorem dX9_counts_8 : decode cX9_counts 8 = .ok (.iaload, 1) := by decide +kernel
theorem dX9_counts_9 : decode cX9_counts 9 = .ok (.iconst 1, 1) := by decide +kernel
theorem dX9_counts_10 : decode cX9_counts 10 = .ok (.if_icmp .ne 7, 3) := by decide +kernel
theorem dX9_counts_13 : decode cX9_counts 13 = .ok (.iconst 1, 1) := by decide +kernel
theorem dX9_counts_14 : decode cX9_counts 14 = .ok (.goto 4, 3) := by decide +kernel
theorem dX9_counts_17 : decode cX9_counts 17 = .ok (.iconst 2, 1) := by decide +kernel
theorem dX9_counts_18 : decode cX9_counts 18 = .ok (.ireturn, 1) := by decide +kernel
theorem dX9_pays_0 : decode cX9_pays 0 = .ok (.aload_n 0, 1) := by decide +kernel
theorem dX9_pays_1 : decode cX9_pays 1 = .ok (.getfield 19, 3) := by decide +kernel
theorem dX9_pays_4 : decode cX9_pays 4 = .ok (.iload_n 1, 1) := by decide +kernel
theorem dX9_pays_5 : decode cX9_pays 5 = .ok (.aload_n 0, 1) := by decide +kernel
theorem dX9_pays_6 : decode cX9_pays 6 = .ok (.getfield 19, 3) := by decide +kernel
theorem dX9_pays_9 : decode cX9_pays 9 = .ok (.iload_n 1, 1) := by decide +kernel
theorem dX9_pays_10 : decode cX9_pays 10 = .ok (.iaload, 1) := by decide +kernel
theorem dX9_pays_11 : decode cX9_pays 11 = .ok (.iload_n 2, 1) := by decide +kernel
theorem dX9_pays_12 : decode cX9_pays 12 = .ok (.if_icmp .le 14, 3) := by decide +kernel
theorem dX9_pays_15 : decode cX9_pays 15 = .ok (.aload_n 0, 1) := by decide +kernel
theorem dX9_pays_16 : decode cX9_pays 16 = .ok (.getfield 19, 3) := by decide +kernel
theorem dX9_pays_19 : decode cX9_pays 19 = .ok (.iload_n 1, 1) := by decide +kernel
theorem dX9_pays_20 : decode cX9_pays 20 = .ok (.iaload, 1) := by decide +kernel
theorem dX9_pays_21 : decode cX9_pays 21 = .ok (.iload_n 2, 1) := by decide +kernel
theorem dX9_pays_22 : decode cX9_pays 22 = .ok (.isub, 1) := by decide +kernel
theorem dX9_pays_23 : decode cX9_pays 23 = .ok (.goto 4, 3) := by decide +kernel
theorem dX9_pays_26 : decode cX9_pays 26 = .ok (.iconst 0, 1) := by decide +kernel
theorem dX9_pays_27 : decode cX9_pays 27 = .ok (.iastore, 1) := by decide +kernel
theorem dX9_pays_28 : decode cX9_pays 28 = .ok (.aload_n 0, 1) := by decide +kernel
theorem dX9_pays_29 : decode cX9_pays 29 = .ok (.getfield 19, 3) := by decide +kernel
theorem dX9_pays_32 : decode cX9_pays 32 = .ok (.bipush 63, 2) := by decide +kernel
theorem dX9_pays_34 : decode cX9_pays 34 = .ok (.aload_n 0, 1) := by decide +kernel
theorem dX9_pays_35 : decode cX9_pays 35 = .ok (.getfield 19, 3) := by decide +kernel
theorem dX9_pays_38 : decode cX9_pays 38 = .ok (.bipush 63, 2) := by decide +kernel
theorem dX9_pays_40 : decode cX9_pays 40 = .ok (.iaload, 1) := by decide +kernel
theorem dX9_pays_41 : decode cX9_pays 41 = .ok (.iload_n 3, 1) := by decide +kernel
theorem dX9_pays_42 : decode cX9_pays 42 = .ok (.iadd, 1) := by decide +kernel
theorem dX9_pays_43 : decode cX9_pays 43 = .ok (.ldc 113, 2) := by decide +kernel
theorem dX9_pays_45 : decode cX9_pays 45 = .ok (.if_icmp .le 8, 3) := by decide +kernel
theorem dX9_pays_48 : decode cX9_pays 48 = .ok (.ldc 113, 2) := by decide +kernel
theorem dX9_pays_50 : decode cX9_pays 50 = .ok (.goto 12, 3) := by decide +kernel
theorem dX9_pays_53 : decode cX9_pays 53 = .ok (.aload_n 0, 1) := by decide +kernel
theorem dX9_pays_54 : decode cX9_pays 54 = .ok (.getfield 19, 3) := by decide +kernel
theorem dX9_pays_57 : decode cX9_pays 57 = .ok (.bipush 63, 2) := by decide +kernel
end
section
theorem dX9_pays_59 : decode cX9_pays 59 = .ok (.iaload, 1) := by decide +kernel
theorem dX9_pays_60 : decode cX9_pays 60 = .ok (.iload_n 3, 1) := by decide +kernel
theorem dX9_pays_61 : decode cX9_pays 61 = .ok (.iadd, 1) := by decide +kernel
theorem dX9_pays_62 : decode cX9_pays 62 = .ok (.iastore, 1) := by decide +kernel
theorem dX9_pays_63 : decode cX9_pays 63 = .ok (.aload_n 0, 1) := by decide +kernel
theorem dX9_pays_64 : decode cX9_pays 64 = .ok (.getfield 19, 3) := by decide +kernel
theorem dX9_pays_67 : decode cX9_pays 67 = .ok (.iload_n 1, 1) := by decide +kernel
theorem dX9_pays_68 : decode cX9_pays 68 = .ok (.iaload, 1) := by decide +kernel
theorem dX9_pays_69 : decode cX9_pays 69 = .ok (.ireturn, 1) := by decide +kernel
theorem dX9_falls_0 : decode cX9_falls 0 = .ok (.aload_n 0, 1) := by decide +kernel
theorem dX9_falls_1 : decode cX9_falls 1 = .ok (.iload_n 1, 1) := by decide +kernel
theorem dX9_falls_2 : decode cX9_falls 2 = .ok (.invokevirtual 110, 3) := by decide +kernel
theorem dX9_falls_5 : decode cX9_falls 5 = .ok (.ifCond .eq 11, 3) := by decide +kernel
theorem dX9_falls_8 : decode cX9_falls 8 = .ok (.aload_n 0, 1) := by decide +kernel
theorem dX9_falls_9 : decode cX9_falls 9 = .ok (.iload_n 2, 1) := by decide +kernel
theorem dX9_falls_10 : decode cX9_falls 10 = .ok (.invokevirtual 104, 3) := by decide +kernel
theorem dX9_falls_13 : decode cX9_falls 13 = .ok (.ifCond .ne 5, 3) := by decide +kernel
theorem dX9_falls_16 : decode cX9_falls 16 = .ok (.iconst (-1), 1) := by decide +kernel
theorem dX9_falls_17 : decode cX9_falls 17 = .ok (.ireturn, 1) := by decide +kernel
theorem dX9_falls_18 : decode cX9_falls 18 = .ok (.aload_n 0, 1) := by decide +kernel
theorem dX9_falls_19 : decode cX9_falls 19 = .ok (.invokevirtual 114, 3) := by decide +kernel
theorem dX9_falls_22 : decode cX9_falls 22 = .ok (.aload_n 0, 1) := by decide +kernel
theorem dX9_falls_23 : decode cX9_falls 23 = .ok (.iload_n 2, 1) := by decide +kernel
theorem dX9_falls_24 : decode cX9_falls 24 = .ok (.aload_n 0, 1) := by decide +kernel
theorem dX9_falls_25 : decode cX9_falls 25 = .ok (.iload_n 1, 1) := by decide +kernel
theorem dX9_falls_26 : decode cX9_falls 26 = .ok (.invokevirtual 117, 3) := by decide +kernel
theorem dX9_falls_29 : decode cX9_falls 29 = .ok (.aload_n 0, 1) := by decide +kernel
theorem dX9_falls_30 : decode cX9_falls 30 = .ok (.getfield 13, 3) := by decide +kernel
theorem dX9_falls_33 : decode cX9_falls 33 = .ok (.bipush 44, 2) := by decide +kernel
theorem dX9_falls_35 : decode cX9_falls 35 = .ok (.iload_n 1, 1) := by decide +kernel
theorem dX9_falls_36 : decode cX9_falls 36 = .ok (.iadd, 1) := by decide +kernel
theorem dX9_falls_37 : decode cX9_falls 37 = .ok (.iaload, 1) := by decide +kernel
theorem dX9_falls_38 : decode cX9_falls 38 = .ok (.invokevirtual 120, 3) := by decide +kernel
theorem dX9_falls_41 : decode cX9_falls 41 = .ok (.ireturn, 1) := by decide +kernel
theorem dX9_together_0 : decode cX9_together 0 = .ok (.aload_n 0, 1) := by decide +kernel
theorem dX9_together_1 : decode cX9_together 1 = .ok (.iload_n 1, 1) := by decide +kernel
theorem dX9_together_2 : decode cX9_together 2 = .ok (.invokevirtual 110, 3) := by decide +kernel
theorem dX9_together_5 : decode cX9_together 5 = .ok (.ifCond .eq 24, 3) := by decide +kernel
theorem dX9_together_8 : decode cX9_together 8 = .ok (.aload_n 0, 1) := by decide +kernel
theorem dX9_together_9 : decode cX9_together 9 = .ok (.iload_n 2, 1) := by decide +kernel
theorem dX9_together_10 : decode cX9_together 10 = .ok (.invokevirtual 110, 3) := by decide +kernel
theorem dX9_together_13 : decode cX9_together 13 = .ok (.ifCond .eq 16, 3) := by decide +kernel
theorem dX9_together_16 : decode cX9_together 16 = .ok (.iload_n 1, 1) := by decide +kernel
theorem dX9_together_17 : decode cX9_together 17 = .ok (.iload_n 2, 1) := by decide +kernel
theorem dX9_together_18 : decode cX9_together 18 = .ok (.if_icmp .eq 11, 3) := by decide +kernel
theorem dX9_together_21 : decode cX9_together 21 = .ok (.aload_n 0, 1) := by decide +kernel
theorem dX9_together_22 : decode cX9_together 22 = .ok (.iload_n 3, 1) := by decide +kernel
theorem dX9_together_23 : decode cX9_together 23 = .ok (.invokevirtual 104, 3) := by decide +kernel
theorem dX9_together_26 : decode cX9_together 26 = .ok (.ifCond .ne 5, 3) := by decide +kernel
theorem dX9_together_29 : decode cX9_together 29 = .ok (.iconst (-1), 1) := by decide +kernel
theorem dX9_together_30 : decode cX9_together 30 = .ok (.ireturn, 1) := by decide +kernel
theorem dX9_together_31 : decode cX9_together 31 = .ok (.aload_n 0, 1) := by decide +kernel
theorem dX9_together_32 : decode cX9_together 32 = .ok (.invokevirtual 114, 3) := by decide +kernel
theorem dX9_together_35 : decode cX9_together 35 = .ok (.aload_n 0, 1) := by decide +kernel
theorem dX9_together_36 : decode cX9_together 36 = .ok (.iload_n 3, 1) := by decide +kernel
theorem dX9_together_37 : decode cX9_together 37 = .ok (.aload_n 0, 1) := by decide +kernel
theorem dX9_together_38 : decode cX9_together 38 = .ok (.getfield 13, 3) := by decide +kernel
theorem dX9_together_41 : decode cX9_together 41 = .ok (.iconst 3, 1) := by decide +kernel
theorem dX9_together_42 : decode cX9_together 42 = .ok (.iaload, 1) := by decide +kernel
theorem dX9_together_43 : decode cX9_together 43 = .ok (.aload_n 0, 1) := by decide +kernel
theorem dX9_together_44 : decode cX9_together 44 = .ok (.getfield 13, 3) := by decide +kernel
theorem dX9_together_47 : decode cX9_together 47 = .ok (.bipush 44, 2) := by decide +kernel
theorem dX9_together_49 : decode cX9_together 49 = .ok (.iload_n 1, 1) := by decide +kernel
theorem dX9_together_50 : decode cX9_together 50 = .ok (.iadd, 1) := by decide +kernel
theorem dX9_together_51 : decode cX9_together 51 = .ok (.iaload, 1) := by decide +kernel
theorem dX9_together_52 : decode cX9_together 52 = .ok (.aload_n 0, 1) := by decide +kernel
theorem dX9_together_53 : decode cX9_together 53 = .ok (.getfield 13, 3) := by decide +kernel
theorem dX9_together_56 : decode cX9_together 56 = .ok (.bipush 44, 2) := by decide +kernel
theorem dX9_together_58 : decode cX9_together 58 = .ok (.iload_n 2, 1) := by decide +kernel
theorem dX9_together_59 : decode cX9_together 59 = .ok (.iadd, 1) := by decide +kernel
theorem dX9_together_60 : decode cX9_together 60 = .ok (.iaload, 1) := by decide +kernel
theorem dX9_together_61 : decode cX9_together 61 = .ok (.iadd, 1) := by decide +kernel
theorem dX9_together_62 : decode cX9_together 62 = .ok (.invokevirtual 120, 3) := by decide +kernel
theorem dX9_together_65 : decode cX9_together 65 = .ok (.ireturn, 1) := by decide +kernel
theorem dX9_throwsDoll_0 : decode cX9_throwsDoll 0 = .ok (.aload_n 0, 1) := by decide +kernel
theorem dX9_throwsDoll_1 : decode cX9_throwsDoll 1 = .ok (.iload_n 1, 1) := by decide +kernel
theorem dX9_throwsDoll_2 : decode cX9_throwsDoll 2 = .ok (.invokevirtual 104, 3) := by decide +kernel
theorem dX9_throwsDoll_5 : decode cX9_throwsDoll 5 = .ok (.ifCond .ne 5, 3) := by decide +kernel
theorem dX9_throwsDoll_8 : decode cX9_throwsDoll 8 = .ok (.iconst (-1), 1) := by decide +kernel
theorem dX9_throwsDoll_9 : decode cX9_throwsDoll 9 = .ok (.ireturn, 1) := by decide +kernel
theorem dX9_throwsDoll_10 : decode cX9_throwsDoll 10 = .ok (.aload_n 0, 1) := by decide +kernel
theorem dX9_throwsDoll_11 : decode cX9_throwsDoll 11 = .ok (.getfield 19, 3) := by decide +kernel
theorem dX9_throwsDoll_14 : decode cX9_throwsDoll 14 = .ok (.bipush 7, 2) := by decide +kernel
theorem dX9_throwsDoll_16 : decode cX9_throwsDoll 16 = .ok (.iload_n 1, 1) := by decide +kernel
theorem dX9_throwsDoll_17 : decode cX9_throwsDoll 17 = .ok (.iadd, 1) := by decide +kernel
theorem dX9_throwsDoll_18 : decode cX9_throwsDoll 18 = .ok (.iaload, 1) := by decide +kernel
theorem dX9_throwsDoll_19 : decode cX9_throwsDoll 19 = .ok (.aload_n 0, 1) := by decide +kernel
theorem dX9_throwsDoll_20 : decode cX9_throwsDoll 20 = .ok (.getfield 13, 3) := by decide +kernel
theorem dX9_throwsDoll_23 : decode cX9_throwsDoll 23 = .ok (.iconst 2, 1) := by decide +kernel
theorem dX9_throwsDoll_24 : decode cX9_throwsDoll 24 = .ok (.iaload, 1) := by decide +kernel
theorem dX9_throwsDoll_25 : decode cX9_throwsDoll 25 = .ok (.if_icmp .lt 6, 3) := by decide +kernel
theorem dX9_throwsDoll_28 : decode cX9_throwsDoll 28 = .ok (.bipush (-2), 2) := by decide +kernel
theorem dX9_throwsDoll_30 : decode cX9_throwsDoll 30 = .ok (.ireturn, 1) := by decide +kernel
theorem dX9_throwsDoll_31 : decode cX9_throwsDoll 31 = .ok (.aload_n 0, 1) := by decide +kernel
theorem dX9_throwsDoll_32 : decode cX9_throwsDoll 32 = .ok (.invokevirtual 114, 3) := by decide +kernel
theorem dX9_throwsDoll_35 : decode cX9_throwsDoll 35 = .ok (.aload_n 0, 1) := by decide +kernel
theorem dX9_throwsDoll_36 : decode cX9_throwsDoll 36 = .ok (.getfield 19, 3) := by decide +kernel
theorem dX9_throwsDoll_39 : decode cX9_throwsDoll 39 = .ok (.bipush 7, 2) := by decide +kernel
theorem dX9_throwsDoll_41 : decode cX9_throwsDoll 41 = .ok (.iload_n 1, 1) := by decide +kernel
theorem dX9_throwsDoll_42 : decode cX9_throwsDoll 42 = .ok (.iadd, 1) := by decide +kernel
theorem dX9_throwsDoll_43 : decode cX9_throwsDoll 43 = .ok (.dup2, 1) := by decide +kernel
theorem dX9_throwsDoll_44 : decode cX9_throwsDoll 44 = .ok (.iaload, 1) := by decide +kernel
theorem dX9_throwsDoll_45 : decode cX9_throwsDoll 45 = .ok (.iconst 1, 1) := by decide +kernel
theorem dX9_throwsDoll_46 : decode cX9_throwsDoll 46 = .ok (.iadd, 1) := by decide +kernel
theorem dX9_throwsDoll_47 : decode cX9_throwsDoll 47 = .ok (.iastore, 1) := by decide +kernel
theorem dX9_throwsDoll_48 : decode cX9_throwsDoll 48 = .ok (.aload_n 0, 1) := by decide +kernel
theorem dX9_throwsDoll_49 : decode cX9_throwsDoll 49 = .ok (.iload_n 1, 1) := by decide +kernel
theorem dX9_throwsDoll_50 : decode cX9_throwsDoll 50 = .ok (.iconst 1, 1) := by decide +kernel
theorem dX9_throwsDoll_51 : decode cX9_throwsDoll 51 = .ok (.iconst 0, 1) := by decide +kernel
theorem dX9_throwsDoll_52 : decode cX9_throwsDoll 52 = .ok (.invokevirtual 120, 3) := by decide +kernel
theorem dX9_throwsDoll_55 : decode cX9_throwsDoll 55 = .ok (.ireturn, 1) := by decide +kernel
theorem dX9_sells_0 : decode cX9_sells 0 = .ok (.aload_n 0, 1) := by decide +kernel
theorem dX9_sells_1 : decode cX9_sells 1 = .ok (.iload_n 1, 1) := by decide +kernel
theorem dX9_sells_2 : decode cX9_sells 2 = .ok (.invokevirtual 104, 3) := by decide +kernel
theorem dX9_sells_5 : decode cX9_sells 5 = .ok (.ifCond .eq 26, 3) := by decide +kernel
theorem dX9_sells_8 : decode cX9_sells 8 = .ok (.aload_n 0, 1) := by decide +kernel
theorem dX9_sells_9 : decode cX9_sells 9 = .ok (.iload_n 2, 1) := by decide +kernel
theorem dX9_sells_10 : decode cX9_sells 10 = .ok (.invokevirtual 104, 3) := by decide +kernel
theorem dX9_sells_13 : decode cX9_sells 13 = .ok (.ifCond .eq 18, 3) := by decide +kernel
theorem dX9_sells_16 : decode cX9_sells 16 = .ok (.iload_n 1, 1) := by decide +kernel
theorem dX9_sells_17 : decode cX9_sells 17 = .ok (.iload_n 2, 1) := by decide +kernel
theorem dX9_sells_18 : decode cX9_sells 18 = .ok (.if_icmp .eq 13, 3) := by decide +kernel
theorem dX9_sells_21 : decode cX9_sells 21 = .ok (.iload_n 3, 1) := by decide +kernel
theorem dX9_sells_22 : decode cX9_sells 22 = .ok (.iconst 1, 1) := by decide +kernel
theorem dX9_sells_23 : decode cX9_sells 23 = .ok (.bipush 99, 2) := by decide +kernel
theorem dX9_sells_25 : decode cX9_sells 25 = .ok (.invokestatic 54, 3) := by decide +kernel
theorem dX9_sells_28 : decode cX9_sells 28 = .ok (.ifCond .ne 5, 3) := by decide +kernel
theorem dX9_sells_31 : decode cX9_sells 31 = .ok (.iconst (-1), 1) := by decide +kernel
theorem dX9_sells_32 : decode cX9_sells 32 = .ok (.ireturn, 1) := by decide +kernel
theorem dX9_sells_33 : decode cX9_sells 33 = .ok (.aload_n 0, 1) := by decide +kernel
theorem dX9_sells_34 : decode cX9_sells 34 = .ok (.getfield 19, 3) := by decide +kernel
theorem dX9_sells_37 : decode cX9_sells 37 = .ok (.iload_n 1, 1) := by decide +kernel
theorem dX9_sells_38 : decode cX9_sells 38 = .ok (.iaload, 1) := by decide +kernel
theorem dX9_sells_39 : decode cX9_sells 39 = .ok (.iload_n 3, 1) := by decide +kernel
theorem dX9_sells_40 : decode cX9_sells 40 = .ok (.if_icmp .ge 6, 3) := by decide +kernel
theorem dX9_sells_43 : decode cX9_sells 43 = .ok (.bipush (-2), 2) := by decide +kernel
theorem dX9_sells_45 : decode cX9_sells 45 = .ok (.ireturn, 1) := by decide +kernel
theorem dX9_sells_46 : decode cX9_sells 46 = .ok (.aload_n 0, 1) := by decide +kernel
theorem dX9_sells_47 : decode cX9_sells 47 = .ok (.getfield 19, 3) := by decide +kernel
theorem dX9_sells_50 : decode cX9_sells 50 = .ok (.iload_n 2, 1) := by decide +kernel
theorem dX9_sells_51 : decode cX9_sells 51 = .ok (.iaload, 1) := by decide +kernel
theorem dX9_sells_52 : decode cX9_sells 52 = .ok (.iload_n 3, 1) := by decide +kernel
theorem dX9_sells_53 : decode cX9_sells 53 = .ok (.iadd, 1) := by decide +kernel
theorem dX9_sells_54 : decode cX9_sells 54 = .ok (.sipush 999, 3) := by decide +kernel
theorem dX9_sells_57 : decode cX9_sells 57 = .ok (.if_icmp .le 6, 3) := by decide +kernel
theorem dX9_sells_60 : decode cX9_sells 60 = .ok (.bipush (-3), 2) := by decide +kernel
theorem dX9_sells_62 : decode cX9_sells 62 = .ok (.ireturn, 1) := by decide +kernel
theorem dX9_sells_63 : decode cX9_sells 63 = .ok (.aload_n 0, 1) := by decide +kernel
theorem dX9_sells_64 : decode cX9_sells 64 = .ok (.invokevirtual 114, 3) := by decide +kernel
theorem dX9_sells_67 : decode cX9_sells 67 = .ok (.aload_n 0, 1) := by decide +kernel
theorem dX9_sells_68 : decode cX9_sells 68 = .ok (.getfield 19, 3) := by decide +kernel
theorem dX9_sells_71 : decode cX9_sells 71 = .ok (.iload_n 1, 1) := by decide +kernel
theorem dX9_sells_72 : decode cX9_sells 72 = .ok (.dup2, 1) := by decide +kernel
theorem dX9_sells_73 : decode cX9_sells 73 = .ok (.iaload, 1) := by decide +kernel
theorem dX9_sells_74 : decode cX9_sells 74 = .ok (.iload_n 3, 1) := by decide +kernel
theorem dX9_sells_75 : decode cX9_sells 75 = .ok (.isub, 1) := by decide +kernel
theorem dX9_sells_76 : decode cX9_sells 76 = .ok (.iastore, 1) := by decide +kernel
theorem dX9_sells_77 : decode cX9_sells 77 = .ok (.aload_n 0, 1) := by decide +kernel
theorem dX9_sells_78 : decode cX9_sells 78 = .ok (.getfield 19, 3) := by decide +kernel
theorem dX9_sells_81 : decode cX9_sells 81 = .ok (.iload_n 2, 1) := by decide +kernel
theorem dX9_sells_82 : decode cX9_sells 82 = .ok (.dup2, 1) := by decide +kernel
theorem dX9_sells_83 : decode cX9_sells 83 = .ok (.iaload, 1) := by decide +kernel
theorem dX9_sells_84 : decode cX9_sells 84 = .ok (.iload_n 3, 1) := by decide +kernel
theorem dX9_sells_85 : decode cX9_sells 85 = .ok (.iadd, 1) := by decide +kernel
theorem dX9_sells_86 : decode cX9_sells 86 = .ok (.iastore, 1) := by decide +kernel
theorem dX9_sells_87 : decode cX9_sells 87 = .ok (.aload_n 0, 1) := by decide +kernel
theorem dX9_sells_88 : decode cX9_sells 88 = .ok (.getfield 19, 3) := by decide +kernel
theorem dX9_sells_91 : decode cX9_sells 91 = .ok (.bipush 14, 2) := by decide +kernel
theorem dX9_sells_93 : decode cX9_sells 93 = .ok (.bipush 7, 2) := by decide +kernel
theorem dX9_sells_95 : decode cX9_sells 95 = .ok (.iload_n 1, 1) := by decide +kernel
theorem dX9_sells_96 : decode cX9_sells 96 = .ok (.imul, 1) := by decide +kernel
theorem dX9_sells_97 : decode cX9_sells 97 = .ok (.iadd, 1) := by decide +kernel
theorem dX9_sells_98 : decode cX9_sells 98 = .ok (.iload_n 2, 1) := by decide +kernel
theorem dX9_sells_99 : decode cX9_sells 99 = .ok (.iadd, 1) := by decide +kernel
theorem dX9_sells_100 : decode cX9_sells 100 = .ok (.dup2, 1) := by decide +kernel
theorem dX9_sells_101 : decode cX9_sells 101 = .ok (.iaload, 1) := by decide +kernel
theorem dX9_sells_102 : decode cX9_sells 102 = .ok (.iload_n 3, 1) := by decide +kernel
theorem dX9_sells_103 : decode cX9_sells 103 = .ok (.iadd, 1) := by decide +kernel
theorem dX9_sells_104 : decode cX9_sells 104 = .ok (.iastore, 1) := by decide +kernel
theorem dX9_sells_105 : decode cX9_sells 105 = .ok (.aload_n 0, 1) := by decide +kernel
theorem dX9_sells_106 : decode cX9_sells 106 = .ok (.getfield 19, 3) := by decide +kernel
theorem dX9_sells_109 : decode cX9_sells 109 = .ok (.iload_n 1, 1) := by decide +kernel
theorem dX9_sells_110 : decode cX9_sells 110 = .ok (.iaload, 1) := by decide +kernel
theorem dX9_sells_111 : decode cX9_sells 111 = .ok (.ireturn, 1) := by decide +kernel
theorem dX9_redeems_0 : decode cX9_redeems 0 = .ok (.aload_n 0, 1) := by decide +kernel
theorem dX9_redeems_1 : decode cX9_redeems 1 = .ok (.iload_n 1, 1) := by decide +kernel
theorem dX9_redeems_2 : decode cX9_redeems 2 = .ok (.invokevirtual 104, 3) := by decide +kernel
theorem dX9_redeems_5 : decode cX9_redeems 5 = .ok (.ifCond .ne 5, 3) := by decide +kernel
theorem dX9_redeems_8 : decode cX9_redeems 8 = .ok (.iconst (-1), 1) := by decide +kernel
theorem dX9_redeems_9 : decode cX9_redeems 9 = .ok (.ireturn, 1) := by decide +kernel
theorem dX9_redeems_10 : decode cX9_redeems 10 = .ok (.aload_n 0, 1) := by decide +kernel
theorem dX9_redeems_11 : decode cX9_redeems 11 = .ok (.getfield 19, 3) := by decide +kernel
theorem dX9_redeems_14 : decode cX9_redeems 14 = .ok (.iload_n 1, 1) := by decide +kernel
theorem dX9_redeems_15 : decode cX9_redeems 15 = .ok (.iaload, 1) := by decide +kernel
theorem dX9_redeems_16 : decode cX9_redeems 16 = .ok (.ifCond .ne 6, 3) := by decide +kernel
theorem dX9_redeems_19 : decode cX9_redeems 19 = .ok (.bipush (-2), 2) := by decide +kernel
theorem dX9_redeems_21 : decode cX9_redeems 21 = .ok (.ireturn, 1) := by decide +kernel
theorem dX9_redeems_22 : decode cX9_redeems 22 = .ok (.aload_n 0, 1) := by decide +kernel
theorem dX9_redeems_23 : decode cX9_redeems 23 = .ok (.invokevirtual 114, 3) := by decide +kernel
theorem dX9_redeems_26 : decode cX9_redeems 26 = .ok (.aload_n 0, 1) := by decide +kernel
theorem dX9_redeems_27 : decode cX9_redeems 27 = .ok (.getfield 19, 3) := by decide +kernel
theorem dX9_redeems_30 : decode cX9_redeems 30 = .ok (.iload_n 1, 1) := by decide +kernel
theorem dX9_redeems_31 : decode cX9_redeems 31 = .ok (.iaload, 1) := by decide +kernel
theorem dX9_redeems_32 : decode cX9_redeems 32 = .ok (.istore_n 2, 1) := by decide +kernel
theorem dX9_redeems_33 : decode cX9_redeems 33 = .ok (.aload_n 0, 1) := by decide +kernel
theorem dX9_redeems_34 : decode cX9_redeems 34 = .ok (.getfield 19, 3) := by decide +kernel
theorem dX9_redeems_37 : decode cX9_redeems 37 = .ok (.iload_n 1, 1) := by decide +kernel
theorem dX9_redeems_38 : decode cX9_redeems 38 = .ok (.iconst 0, 1) := by decide +kernel
theorem dX9_redeems_39 : decode cX9_redeems 39 = .ok (.iastore, 1) := by decide +kernel
theorem dX9_redeems_40 : decode cX9_redeems 40 = .ok (.iload_n 2, 1) := by decide +kernel
theorem dX9_redeems_41 : decode cX9_redeems 41 = .ok (.ireturn, 1) := by decide +kernel
theorem dX9_all_0 : decode cX9_all 0 = .ok (.iconst 0, 1) := by decide +kernel
theorem dX9_all_1 : decode cX9_all 1 = .ok (.istore_n 1, 1) := by decide +kernel
theorem dX9_all_2 : decode cX9_all 2 = .ok (.iconst 0, 1) := by decide +kernel
theorem dX9_all_3 : decode cX9_all 3 = .ok (.istore_n 2, 1) := by decide +kernel
theorem dX9_all_4 : decode cX9_all 4 = .ok (.iload_n 2, 1) := by decide +kernel
theorem dX9_all_5 : decode cX9_all 5 = .ok (.aload_n 0, 1) := by decide +kernel
theorem dX9_all_6 : decode cX9_all 6 = .ok (.getfield 13, 3) := by decide +kernel
theorem dX9_all_9 : decode cX9_all 9 = .ok (.iconst 0, 1) := by decide +kernel
theorem dX9_all_10 : decode cX9_all 10 = .ok (.iaload, 1) := by decide +kernel
theorem dX9_all_11 : decode cX9_all 11 = .ok (.if_icmp .ge 18, 3) := by decide +kernel
theorem dX9_all_14 : decode cX9_all 14 = .ok (.iload_n 1, 1) := by decide +kernel
theorem dX9_all_15 : decode cX9_all 15 = .ok (.aload_n 0, 1) := by decide +kernel
theorem dX9_all_16 : decode cX9_all 16 = .ok (.getfield 19, 3) := by decide +kernel
theorem dX9_all_19 : decode cX9_all 19 = .ok (.iload_n 2, 1) := by decide +kernel
theorem dX9_all_20 : decode cX9_all 20 = .ok (.iaload, 1) := by decide +kernel
theorem dX9_all_21 : decode cX9_all 21 = .ok (.iadd, 1) := by decide +kernel
theorem dX9_all_22 : decode cX9_all 22 = .ok (.istore_n 1, 1) := by decide +kernel
theorem dX9_all_23 : decode cX9_all 23 = .ok (.iinc 2 1, 3) := by decide +kernel
theorem dX9_all_26 : decode cX9_all 26 = .ok (.goto (-22), 3) := by decide +kernel
theorem dX9_all_29 : decode cX9_all 29 = .ok (.iload_n 1, 1) := by decide +kernel
theorem dX9_all_30 : decode cX9_all 30 = .ok (.ireturn, 1) := by decide +kernel
theorem dX9_more_0 : decode cX9_more 0 = .ok (.iload_n 0, 1) := by decide +kernel
theorem dX9_more_1 : decode cX9_more 1 = .ok (.iload_n 1, 1) := by decide +kernel
theorem dX9_more_2 : decode cX9_more 2 = .ok (.iadd, 1) := by decide +kernel
theorem dX9_more_3 : decode cX9_more 3 = .ok (.sipush 999, 3) := by decide +kernel
theorem dX9_more_6 : decode cX9_more 6 = .ok (.if_icmp .le 9, 3) := by decide +kernel
theorem dX9_more_9 : decode cX9_more 9 = .ok (.sipush 999, 3) := by decide +kernel
theorem dX9_more_12 : decode cX9_more 12 = .ok (.goto 6, 3) := by decide +kernel
theorem dX9_more_15 : decode cX9_more 15 = .ok (.iload_n 0, 1) := by decide +kernel
theorem dX9_more_16 : decode cX9_more 16 = .ok (.iload_n 1, 1) := by decide +kernel
theorem dX9_more_17 : decode cX9_more 17 = .ok (.iadd, 1) := by decide +kernel
theorem dX9_more_18 : decode cX9_more 18 = .ok (.ireturn, 1) := by decide +kernel
theorem dX9_ends_0 : decode cX9_ends 0 = .ok (.aload_n 0, 1) := by decide +kernel
theorem dX9_ends_1 : decode cX9_ends 1 = .ok (.getfield 19, 3) := by decide +kernel
theorem dX9_ends_4 : decode cX9_ends 4 = .ok (.bipush 64, 2) := by decide +kernel
theorem dX9_ends_6 : decode cX9_ends 6 = .ok (.iaload, 1) := by decide +kernel
theorem dX9_ends_7 : decode cX9_ends 7 = .ok (.bipush 99, 2) := by decide +kernel
theorem dX9_ends_9 : decode cX9_ends 9 = .ok (.if_icmp .ne 6, 3) := by decide +kernel
theorem dX9_ends_12 : decode cX9_ends 12 = .ok (.bipush (-2), 2) := by decide +kernel
theorem dX9_ends_14 : decode cX9_ends 14 = .ok (.ireturn, 1) := by decide +kernel
theorem dX9_ends_15 : decode cX9_ends 15 = .ok (.aload_n 0, 1) := by decide +kernel
theorem dX9_ends_16 : decode cX9_ends 16 = .ok (.invokevirtual 114, 3) := by decide +kernel
theorem dX9_ends_19 : decode cX9_ends 19 = .ok (.iconst 0, 1) := by decide +kernel
theorem dX9_ends_20 : decode cX9_ends 20 = .ok (.istore_n 1, 1) := by decide +kernel
theorem dX9_ends_21 : decode cX9_ends 21 = .ok (.iload_n 1, 1) := by decide +kernel
theorem dX9_ends_22 : decode cX9_ends 22 = .ok (.aload_n 0, 1) := by decide +kernel
theorem dX9_ends_23 : decode cX9_ends 23 = .ok (.getfield 13, 3) := by decide +kernel
theorem dX9_ends_26 : decode cX9_ends 26 = .ok (.iconst 0, 1) := by decide +kernel
theorem dX9_ends_27 : decode cX9_ends 27 = .ok (.iaload, 1) := by decide +kernel
theorem dX9_ends_28 : decode cX9_ends 28 = .ok (.if_icmp .ge 43, 3) := by decide +kernel
theorem dX9_ends_31 : decode cX9_ends 31 = .ok (.aload_n 0, 1) := by decide +kernel
theorem dX9_ends_32 : decode cX9_ends 32 = .ok (.getfield 19, 3) := by decide +kernel
theorem dX9_ends_35 : decode cX9_ends 35 = .ok (.iload_n 1, 1) := by decide +kernel
theorem dX9_ends_36 : decode cX9_ends 36 = .ok (.aload_n 0, 1) := by decide +kernel
theorem dX9_ends_37 : decode cX9_ends 37 = .ok (.getfield 19, 3) := by decide +kernel
theorem dX9_ends_40 : decode cX9_ends 40 = .ok (.iload_n 1, 1) := by decide +kernel
theorem dX9_ends_41 : decode cX9_ends 41 = .ok (.iaload, 1) := by decide +kernel
theorem dX9_ends_42 : decode cX9_ends 42 = .ok (.aload_n 0, 1) := by decide +kernel
theorem dX9_ends_43 : decode cX9_ends 43 = .ok (.getfield 13, 3) := by decide +kernel
theorem dX9_ends_46 : decode cX9_ends 46 = .ok (.bipush 27, 2) := by decide +kernel
theorem dX9_ends_48 : decode cX9_ends 48 = .ok (.iload_n 1, 1) := by decide +kernel
theorem dX9_ends_49 : decode cX9_ends 49 = .ok (.iadd, 1) := by decide +kernel
theorem dX9_ends_50 : decode cX9_ends 50 = .ok (.iaload, 1) := by decide +kernel
theorem dX9_ends_51 : decode cX9_ends 51 = .ok (.invokestatic 124, 3) := by decide +kernel
theorem dX9_ends_54 : decode cX9_ends 54 = .ok (.iastore, 1) := by decide +kernel
theorem dX9_ends_55 : decode cX9_ends 55 = .ok (.aload_n 0, 1) := by decide +kernel
theorem dX9_ends_56 : decode cX9_ends 56 = .ok (.getfield 19, 3) := by decide +kernel
theorem dX9_ends_59 : decode cX9_ends 59 = .ok (.bipush 7, 2) := by decide +kernel
theorem dX9_ends_61 : decode cX9_ends 61 = .ok (.iload_n 1, 1) := by decide +kernel
theorem dX9_ends_62 : decode cX9_ends 62 = .ok (.iadd, 1) := by decide +kernel
theorem dX9_ends_63 : decode cX9_ends 63 = .ok (.iconst 0, 1) := by decide +kernel
theorem dX9_ends_64 : decode cX9_ends 64 = .ok (.iastore, 1) := by decide +kernel
theorem dX9_ends_65 : decode cX9_ends 65 = .ok (.iinc 1 1, 3) := by decide +kernel
theorem dX9_ends_68 : decode cX9_ends 68 = .ok (.goto (-47), 3) := by decide +kernel
theorem dX9_ends_71 : decode cX9_ends 71 = .ok (.iconst 0, 1) := by decide +kernel
theorem dX9_ends_72 : decode cX9_ends 72 = .ok (.istore_n 1, 1) := by decide +kernel
theorem dX9_ends_73 : decode cX9_ends 73 = .ok (.iload_n 1, 1) := by decide +kernel
theorem dX9_ends_74 : decode cX9_ends 74 = .ok (.bipush 49, 2) := by decide +kernel
theorem dX9_ends_76 : decode cX9_ends 76 = .ok (.if_icmp .ge 19, 3) := by decide +kernel
theorem dX9_ends_79 : decode cX9_ends 79 = .ok (.aload_n 0, 1) := by decide +kernel
theorem dX9_ends_80 : decode cX9_ends 80 = .ok (.getfield 19, 3) := by decide +kernel
theorem dX9_ends_83 : decode cX9_ends 83 = .ok (.bipush 14, 2) := by decide +kernel
theorem dX9_ends_85 : decode cX9_ends 85 = .ok (.iload_n 1, 1) := by decide +kernel
theorem dX9_ends_86 : decode cX9_ends 86 = .ok (.iadd, 1) := by decide +kernel
theorem dX9_ends_87 : decode cX9_ends 87 = .ok (.iconst 0, 1) := by decide +kernel
theorem dX9_ends_88 : decode cX9_ends 88 = .ok (.iastore, 1) := by decide +kernel
theorem dX9_ends_89 : decode cX9_ends 89 = .ok (.iinc 1 1, 3) := by decide +kernel
theorem dX9_ends_92 : decode cX9_ends 92 = .ok (.goto (-19), 3) := by decide +kernel
theorem dX9_ends_95 : decode cX9_ends 95 = .ok (.aload_n 0, 1) := by decide +kernel
theorem dX9_ends_96 : decode cX9_ends 96 = .ok (.getfield 19, 3) := by decide +kernel
theorem dX9_ends_99 : decode cX9_ends 99 = .ok (.bipush 64, 2) := by decide +kernel
theorem dX9_ends_101 : decode cX9_ends 101 = .ok (.dup2, 1) := by decide +kernel
theorem dX9_ends_102 : decode cX9_ends 102 = .ok (.iaload, 1) := by decide +kernel
theorem dX9_ends_103 : decode cX9_ends 103 = .ok (.iconst 1, 1) := by decide +kernel
theorem dX9_ends_104 : decode cX9_ends 104 = .ok (.iadd, 1) := by decide +kernel
theorem dX9_ends_105 : decode cX9_ends 105 = .ok (.iastore, 1) := by decide +kernel
theorem dX9_ends_106 : decode cX9_ends 106 = .ok (.aload_n 0, 1) := by decide +kernel
theorem dX9_ends_107 : decode cX9_ends 107 = .ok (.invokevirtual 128, 3) := by decide +kernel
theorem dX9_ends_110 : decode cX9_ends 110 = .ok (.ireturn, 1) := by decide +kernel
theorem dX9_undo_0 : decode cX9_undo 0 = .ok (.aload_n 0, 1) := by decide +kernel
theorem dX9_undo_1 : decode cX9_undo 1 = .ok (.getfield 19, 3) := by decide +kernel
theorem dX9_undo_4 : decode cX9_undo 4 = .ok (.bipush 65, 2) := by decide +kernel
theorem dX9_undo_6 : decode cX9_undo 6 = .ok (.iaload, 1) := by decide +kernel
theorem dX9_undo_7 : decode cX9_undo 7 = .ok (.ifCond .ne 6, 3) := by decide +kernel
theorem dX9_undo_10 : decode cX9_undo 10 = .ok (.bipush (-2), 2) := by decide +kernel
theorem dX9_undo_12 : decode cX9_undo 12 = .ok (.ireturn, 1) := by decide +kernel
theorem dX9_undo_13 : decode cX9_undo 13 = .ok (.aload_n 0, 1) := by decide +kernel
theorem dX9_undo_14 : decode cX9_undo 14 = .ok (.getfield 19, 3) := by decide +kernel
theorem dX9_undo_17 : decode cX9_undo 17 = .ok (.bipush 65, 2) := by decide +kernel
theorem dX9_undo_19 : decode cX9_undo 19 = .ok (.dup2, 1) := by decide +kernel
theorem dX9_undo_20 : decode cX9_undo 20 = .ok (.iaload, 1) := by decide +kernel
theorem dX9_undo_21 : decode cX9_undo 21 = .ok (.iconst 1, 1) := by decide +kernel
theorem dX9_undo_22 : decode cX9_undo 22 = .ok (.isub, 1) := by decide +kernel
theorem dX9_undo_23 : decode cX9_undo 23 = .ok (.iastore, 1) := by decide +kernel
theorem dX9_undo_24 : decode cX9_undo 24 = .ok (.bipush 66, 2) := by decide +kernel
theorem dX9_undo_26 : decode cX9_undo 26 = .ok (.bipush 65, 2) := by decide +kernel
theorem dX9_undo_28 : decode cX9_undo 28 = .ok (.aload_n 0, 1) := by decide +kernel
theorem dX9_undo_29 : decode cX9_undo 29 = .ok (.getfield 19, 3) := by decide +kernel
theorem dX9_undo_32 : decode cX9_undo 32 = .ok (.bipush 65, 2) := by decide +kernel
theorem dX9_undo_34 : decode cX9_undo 34 = .ok (.iaload, 1) := by decide +kernel
theorem dX9_undo_35 : decode cX9_undo 35 = .ok (.imul, 1) := by decide +kernel
theorem dX9_undo_36 : decode cX9_undo 36 = .ok (.iadd, 1) := by decide +kernel
theorem dX9_undo_37 : decode cX9_undo 37 = .ok (.istore_n 1, 1) := by decide +kernel
theorem dX9_undo_38 : decode cX9_undo 38 = .ok (.iconst 0, 1) := by decide +kernel
theorem dX9_undo_39 : decode cX9_undo 39 = .ok (.istore_n 2, 1) := by decide +kernel
theorem dX9_undo_40 : decode cX9_undo 40 = .ok (.iload_n 2, 1) := by decide +kernel
theorem dX9_undo_41 : decode cX9_undo 41 = .ok (.bipush 65, 2) := by decide +kernel
theorem dX9_undo_43 : decode cX9_undo 43 = .ok (.if_icmp .ge 23, 3) := by decide +kernel
theorem dX9_undo_46 : decode cX9_undo 46 = .ok (.aload_n 0, 1) := by decide +kernel
theorem dX9_undo_47 : decode cX9_undo 47 = .ok (.getfield 19, 3) := by decide +kernel
theorem dX9_undo_50 : decode cX9_undo 50 = .ok (.iload_n 2, 1) := by decide +kernel
theorem dX9_undo_51 : decode cX9_undo 51 = .ok (.aload_n 0, 1) := by decide +kernel
theorem dX9_undo_52 : decode cX9_undo 52 = .ok (.getfield 19, 3) := by decide +kernel
theorem dX9_undo_55 : decode cX9_undo 55 = .ok (.iload_n 1, 1) := by decide +kernel
theorem dX9_undo_56 : decode cX9_undo 56 = .ok (.iload_n 2, 1) := by decide +kernel
theorem dX9_undo_57 : decode cX9_undo 57 = .ok (.iadd, 1) := by decide +kernel
theorem dX9_undo_58 : decode cX9_undo 58 = .ok (.iaload, 1) := by decide +kernel
theorem dX9_undo_59 : decode cX9_undo 59 = .ok (.iastore, 1) := by decide +kernel
theorem dX9_undo_60 : decode cX9_undo 60 = .ok (.iinc 2 1, 3) := by decide +kernel
theorem dX9_undo_63 : decode cX9_undo 63 = .ok (.goto (-23), 3) := by decide +kernel
theorem dX9_undo_66 : decode cX9_undo 66 = .ok (.aload_n 0, 1) := by decide +kernel
theorem dX9_undo_67 : decode cX9_undo 67 = .ok (.getfield 19, 3) := by decide +kernel
theorem dX9_undo_70 : decode cX9_undo 70 = .ok (.bipush 65, 2) := by decide +kernel
theorem dX9_undo_72 : decode cX9_undo 72 = .ok (.iaload, 1) := by decide +kernel
theorem dX9_undo_73 : decode cX9_undo 73 = .ok (.ireturn, 1) := by decide +kernel
theorem dX9_dear_0 : decode cX9_dear 0 = .ok (.bipush (-9), 2) := by decide +kernel
theorem dX9_dear_2 : decode cX9_dear 2 = .ok (.istore_n 1, 1) := by decide +kernel
theorem dX9_dear_3 : decode cX9_dear 3 = .ok (.aload_n 0, 1) := by decide +kernel
theorem dX9_dear_4 : decode cX9_dear 4 = .ok (.getfield 13, 3) := by decide +kernel
theorem dX9_dear_7 : decode cX9_dear 7 = .ok (.iconst 0, 1) := by decide +kernel
theorem dX9_dear_8 : decode cX9_dear 8 = .ok (.iaload, 1) := by decide +kernel
theorem dX9_dear_9 : decode cX9_dear 9 = .ok (.iconst 1, 1) := by decide +kernel
theorem dX9_dear_10 : decode cX9_dear 10 = .ok (.isub, 1) := by decide +kernel
theorem dX9_dear_11 : decode cX9_dear 11 = .ok (.istore_n 2, 1) := by decide +kernel
theorem dX9_dear_12 : decode cX9_dear 12 = .ok (.iload_n 2, 1) := by decide +kernel
theorem dX9_dear_13 : decode cX9_dear 13 = .ok (.ifCond .lt 34, 3) := by decide +kernel
theorem dX9_dear_16 : decode cX9_dear 16 = .ok (.iload_n 1, 1) := by decide +kernel
theorem dX9_dear_17 : decode cX9_dear 17 = .ok (.bipush (-9), 2) := by decide +kernel
theorem dX9_dear_19 : decode cX9_dear 19 = .ok (.if_icmp .eq 16, 3) := by decide +kernel
theorem dX9_dear_22 : decode cX9_dear 22 = .ok (.aload_n 0, 1) := by decide +kernel
theorem dX9_dear_23 : decode cX9_dear 23 = .ok (.iload_n 2, 1) := by decide +kernel
theorem dX9_dear_24 : decode cX9_dear 24 = .ok (.invokevirtual 107, 3) := by decide +kernel
theorem dX9_dear_27 : decode cX9_dear 27 = .ok (.aload_n 0, 1) := by decide +kernel
theorem dX9_dear_28 : decode cX9_dear 28 = .ok (.iload_n 1, 1) := by decide +kernel
theorem dX9_dear_29 : decode cX9_dear 29 = .ok (.invokevirtual 107, 3) := by decide +kernel
theorem dX9_dear_32 : decode cX9_dear 32 = .ok (.if_icmp .lt 7, 3) := by decide +kernel
theorem dX9_dear_35 : decode cX9_dear 35 = .ok (.iload_n 2, 1) := by decide +kernel
theorem dX9_dear_36 : decode cX9_dear 36 = .ok (.goto 4, 3) := by decide +kernel
theorem dX9_dear_39 : decode cX9_dear 39 = .ok (.iload_n 1, 1) := by decide +kernel
theorem dX9_dear_40 : decode cX9_dear 40 = .ok (.istore_n 1, 1) := by decide +kernel
theorem dX9_dear_41 : decode cX9_dear 41 = .ok (.iinc 2 (-1), 3) := by decide +kernel
theorem dX9_dear_44 : decode cX9_dear 44 = .ok (.goto (-32), 3) := by decide +kernel
theorem dX9_dear_47 : decode cX9_dear 47 = .ok (.iload_n 1, 1) := by decide +kernel
theorem dX9_dear_48 : decode cX9_dear 48 = .ok (.ireturn, 1) := by decide +kernel
theorem dX9_finds_0 : decode cX9_finds 0 = .ok (.iconst 0, 1) := by decide +kernel
theorem dX9_finds_1 : decode cX9_finds 1 = .ok (.istore_n 2, 1) := by decide +kernel
theorem dX9_finds_2 : decode cX9_finds 2 = .ok (.aload_n 0, 1) := by decide +kernel
theorem dX9_finds_3 : decode cX9_finds 3 = .ok (.getfield 32, 3) := by decide +kernel
theorem dX9_finds_6 : decode cX9_finds 6 = .ok (.iconst 0, 1) := by decide +kernel
theorem dX9_finds_7 : decode cX9_finds 7 = .ok (.iconst (-1), 1) := by decide +kernel
theorem dX9_finds_8 : decode cX9_finds 8 = .ok (.iastore, 1) := by decide +kernel
theorem dX9_finds_9 : decode cX9_finds 9 = .ok (.iload_n 2, 1) := by decide +kernel
theorem dX9_finds_10 : decode cX9_finds 10 = .ok (.ifCond .lt 202, 3) := by decide +kernel
theorem dX9_finds_13 : decode cX9_finds 13 = .ok (.aload_n 0, 1) := by decide +kernel
theorem dX9_finds_14 : decode cX9_finds 14 = .ok (.getfield 32, 3) := by decide +kernel
theorem dX9_finds_17 : decode cX9_finds 17 = .ok (.iload_n 2, 1) := by decide +kernel
theorem dX9_finds_18 : decode cX9_finds 18 = .ok (.dup2, 1) := by decide +kernel
theorem dX9_finds_19 : decode cX9_finds 19 = .ok (.iaload, 1) := by decide +kernel
theorem dX9_finds_20 : decode cX9_finds 20 = .ok (.iconst 1, 1) := by decide +kernel
theorem dX9_finds_21 : decode cX9_finds 21 = .ok (.iadd, 1) := by decide +kernel
theorem dX9_finds_22 : decode cX9_finds 22 = .ok (.iastore, 1) := by decide +kernel
theorem dX9_finds_23 : decode cX9_finds 23 = .ok (.aload_n 0, 1) := by decide +kernel
theorem dX9_finds_24 : decode cX9_finds 24 = .ok (.getfield 32, 3) := by decide +kernel
theorem dX9_finds_27 : decode cX9_finds 27 = .ok (.iload_n 2, 1) := by decide +kernel
theorem dX9_finds_28 : decode cX9_finds 28 = .ok (.iaload, 1) := by decide +kernel
theorem dX9_finds_29 : decode cX9_finds 29 = .ok (.aload_n 0, 1) := by decide +kernel
theorem dX9_finds_30 : decode cX9_finds 30 = .ok (.getfield 13, 3) := by decide +kernel
theorem dX9_finds_33 : decode cX9_finds 33 = .ok (.iconst 0, 1) := by decide +kernel
theorem dX9_finds_34 : decode cX9_finds 34 = .ok (.iaload, 1) := by decide +kernel
theorem dX9_finds_35 : decode cX9_finds 35 = .ok (.if_icmp .ge 7, 3) := by decide +kernel
theorem dX9_finds_38 : decode cX9_finds 38 = .ok (.iconst 1, 1) := by decide +kernel
theorem dX9_finds_39 : decode cX9_finds 39 = .ok (.goto 4, 3) := by decide +kernel
theorem dX9_finds_42 : decode cX9_finds 42 = .ok (.iconst 0, 1) := by decide +kernel
theorem dX9_finds_43 : decode cX9_finds 43 = .ok (.istore_n 3, 1) := by decide +kernel
theorem dX9_finds_44 : decode cX9_finds 44 = .ok (.iload_n 3, 1) := by decide +kernel
theorem dX9_finds_45 : decode cX9_finds 45 = .ok (.ifCond .ne 9, 3) := by decide +kernel
theorem dX9_finds_48 : decode cX9_finds 48 = .ok (.iinc 2 (-1), 3) := by decide +kernel
theorem dX9_finds_51 : decode cX9_finds 51 = .ok (.goto 158, 3) := by decide +kernel
theorem dX9_finds_54 : decode cX9_finds 54 = .ok (.iload_n 2, 1) := by decide +kernel
theorem dX9_finds_55 : decode cX9_finds 55 = .ok (.ifCond .eq 44, 3) := by decide +kernel
theorem dX9_finds_58 : decode cX9_finds 58 = .ok (.aload_n 0, 1) := by decide +kernel
theorem dX9_finds_59 : decode cX9_finds 59 = .ok (.getfield 32, 3) := by decide +kernel
theorem dX9_finds_62 : decode cX9_finds 62 = .ok (.iload_n 2, 1) := by decide +kernel
theorem dX9_finds_63 : decode cX9_finds 63 = .ok (.iaload, 1) := by decide +kernel
theorem dX9_finds_64 : decode cX9_finds 64 = .ok (.aload_n 0, 1) := by decide +kernel
theorem dX9_finds_65 : decode cX9_finds 65 = .ok (.getfield 32, 3) := by decide +kernel
theorem dX9_finds_68 : decode cX9_finds 68 = .ok (.iconst 0, 1) := by decide +kernel
theorem dX9_finds_69 : decode cX9_finds 69 = .ok (.iaload, 1) := by decide +kernel
theorem dX9_finds_70 : decode cX9_finds 70 = .ok (.if_icmp .le 33, 3) := by decide +kernel
theorem dX9_finds_73 : decode cX9_finds 73 = .ok (.aload_n 0, 1) := by decide +kernel
theorem dX9_finds_74 : decode cX9_finds 74 = .ok (.getfield 29, 3) := by decide +kernel
theorem dX9_finds_77 : decode cX9_finds 77 = .ok (.bipush 7, 2) := by decide +kernel
theorem dX9_finds_79 : decode cX9_finds 79 = .ok (.aload_n 0, 1) := by decide +kernel
theorem dX9_finds_80 : decode cX9_finds 80 = .ok (.getfield 32, 3) := by decide +kernel
theorem dX9_finds_83 : decode cX9_finds 83 = .ok (.iload_n 2, 1) := by decide +kernel
theorem dX9_finds_84 : decode cX9_finds 84 = .ok (.iconst 1, 1) := by decide +kernel
theorem dX9_finds_85 : decode cX9_finds 85 = .ok (.isub, 1) := by decide +kernel
theorem dX9_finds_86 : decode cX9_finds 86 = .ok (.iaload, 1) := by decide +kernel
theorem dX9_finds_87 : decode cX9_finds 87 = .ok (.imul, 1) := by decide +kernel
theorem dX9_finds_88 : decode cX9_finds 88 = .ok (.aload_n 0, 1) := by decide +kernel
theorem dX9_finds_89 : decode cX9_finds 89 = .ok (.getfield 32, 3) := by decide +kernel
theorem dX9_finds_92 : decode cX9_finds 92 = .ok (.iload_n 2, 1) := by decide +kernel
theorem dX9_finds_93 : decode cX9_finds 93 = .ok (.iaload, 1) := by decide +kernel
theorem dX9_finds_94 : decode cX9_finds 94 = .ok (.iadd, 1) := by decide +kernel
theorem dX9_finds_95 : decode cX9_finds 95 = .ok (.iaload, 1) := by decide +kernel
theorem dX9_finds_96 : decode cX9_finds 96 = .ok (.ifCond .le 7, 3) := by decide +kernel
theorem dX9_finds_99 : decode cX9_finds 99 = .ok (.iconst 1, 1) := by decide +kernel
theorem dX9_finds_100 : decode cX9_finds 100 = .ok (.goto 4, 3) := by decide +kernel
theorem dX9_finds_103 : decode cX9_finds 103 = .ok (.iconst 0, 1) := by decide +kernel
theorem dX9_finds_104 : decode cX9_finds 104 = .ok (.istore 4, 2) := by decide +kernel
theorem dX9_finds_106 : decode cX9_finds 106 = .ok (.iconst 0, 1) := by decide +kernel
theorem dX9_finds_107 : decode cX9_finds 107 = .ok (.istore 5, 2) := by decide +kernel
theorem dX9_finds_109 : decode cX9_finds 109 = .ok (.iload 5, 2) := by decide +kernel
theorem dX9_finds_111 : decode cX9_finds 111 = .ok (.iload_n 2, 1) := by decide +kernel
theorem dX9_finds_112 : decode cX9_finds 112 = .ok (.if_icmp .ge 37, 3) := by decide +kernel
theorem dX9_finds_115 : decode cX9_finds 115 = .ok (.iload 4, 2) := by decide +kernel
theorem dX9_finds_117 : decode cX9_finds 117 = .ok (.ifCond .eq 23, 3) := by decide +kernel
theorem dX9_finds_120 : decode cX9_finds 120 = .ok (.aload_n 0, 1) := by decide +kernel
theorem dX9_finds_121 : decode cX9_finds 121 = .ok (.getfield 32, 3) := by decide +kernel
theorem dX9_finds_124 : decode cX9_finds 124 = .ok (.iload 5, 2) := by decide +kernel
theorem dX9_finds_126 : decode cX9_finds 126 = .ok (.iaload, 1) := by decide +kernel
theorem dX9_finds_127 : decode cX9_finds 127 = .ok (.aload_n 0, 1) := by decide +kernel
theorem dX9_finds_128 : decode cX9_finds 128 = .ok (.getfield 32, 3) := by decide +kernel
theorem dX9_finds_131 : decode cX9_finds 131 = .ok (.iload_n 2, 1) := by decide +kernel
theorem dX9_finds_132 : decode cX9_finds 132 = .ok (.iaload, 1) := by decide +kernel
theorem dX9_finds_133 : decode cX9_finds 133 = .ok (.if_icmp .eq 7, 3) := by decide +kernel
theorem dX9_finds_136 : decode cX9_finds 136 = .ok (.iconst 1, 1) := by decide +kernel
theorem dX9_finds_137 : decode cX9_finds 137 = .ok (.goto 4, 3) := by decide +kernel
theorem dX9_finds_140 : decode cX9_finds 140 = .ok (.iconst 0, 1) := by decide +kernel
theorem dX9_finds_141 : decode cX9_finds 141 = .ok (.istore 4, 2) := by decide +kernel
theorem dX9_finds_143 : decode cX9_finds 143 = .ok (.iinc 5 1, 3) := by decide +kernel
theorem dX9_finds_146 : decode cX9_finds 146 = .ok (.goto (-37), 3) := by decide +kernel
theorem dX9_finds_149 : decode cX9_finds 149 = .ok (.iload 4, 2) := by decide +kernel
theorem dX9_finds_151 : decode cX9_finds 151 = .ok (.ifCond .eq 36, 3) := by decide +kernel
theorem dX9_finds_154 : decode cX9_finds 154 = .ok (.iload_n 2, 1) := by decide +kernel
theorem dX9_finds_155 : decode cX9_finds 155 = .ok (.iconst 1, 1) := by decide +kernel
theorem dX9_finds_156 : decode cX9_finds 156 = .ok (.iadd, 1) := by decide +kernel
theorem dX9_finds_157 : decode cX9_finds 157 = .ok (.iload_n 1, 1) := by decide +kernel
theorem dX9_finds_158 : decode cX9_finds 158 = .ok (.if_icmp .ne 29, 3) := by decide +kernel
theorem dX9_finds_161 : decode cX9_finds 161 = .ok (.aload_n 0, 1) := by decide +kernel
theorem dX9_finds_162 : decode cX9_finds 162 = .ok (.getfield 29, 3) := by decide +kernel
theorem dX9_finds_165 : decode cX9_finds 165 = .ok (.bipush 7, 2) := by decide +kernel
theorem dX9_finds_167 : decode cX9_finds 167 = .ok (.aload_n 0, 1) := by decide +kernel
theorem dX9_finds_168 : decode cX9_finds 168 = .ok (.getfield 32, 3) := by decide +kernel
theorem dX9_finds_171 : decode cX9_finds 171 = .ok (.iload_n 2, 1) := by decide +kernel
theorem dX9_finds_172 : decode cX9_finds 172 = .ok (.iaload, 1) := by decide +kernel
theorem dX9_finds_173 : decode cX9_finds 173 = .ok (.imul, 1) := by decide +kernel
theorem dX9_finds_174 : decode cX9_finds 174 = .ok (.aload_n 0, 1) := by decide +kernel
theorem dX9_finds_175 : decode cX9_finds 175 = .ok (.getfield 32, 3) := by decide +kernel
theorem dX9_finds_178 : decode cX9_finds 178 = .ok (.iconst 0, 1) := by decide +kernel
theorem dX9_finds_179 : decode cX9_finds 179 = .ok (.iaload, 1) := by decide +kernel
theorem dX9_finds_180 : decode cX9_finds 180 = .ok (.iadd, 1) := by decide +kernel
theorem dX9_finds_181 : decode cX9_finds 181 = .ok (.iaload, 1) := by decide +kernel
theorem dX9_finds_182 : decode cX9_finds 182 = .ok (.ifCond .le 5, 3) := by decide +kernel
theorem dX9_finds_185 : decode cX9_finds 185 = .ok (.iconst 1, 1) := by decide +kernel
theorem dX9_finds_186 : decode cX9_finds 186 = .ok (.ireturn, 1) := by decide +kernel
theorem dX9_finds_187 : decode cX9_finds 187 = .ok (.iload 4, 2) := by decide +kernel
theorem dX9_finds_189 : decode cX9_finds 189 = .ok (.ifCond .eq 20, 3) := by decide +kernel
theorem dX9_finds_192 : decode cX9_finds 192 = .ok (.iload_n 2, 1) := by decide +kernel
theorem dX9_finds_193 : decode cX9_finds 193 = .ok (.iconst 1, 1) := by decide +kernel
theorem dX9_finds_194 : decode cX9_finds 194 = .ok (.iadd, 1) := by decide +kernel
theorem dX9_finds_195 : decode cX9_finds 195 = .ok (.iload_n 1, 1) := by decide +kernel
theorem dX9_finds_196 : decode cX9_finds 196 = .ok (.if_icmp .ge 13, 3) := by decide +kernel
theorem dX9_finds_199 : decode cX9_finds 199 = .ok (.iinc 2 1, 3) := by decide +kernel
theorem dX9_finds_202 : decode cX9_finds 202 = .ok (.aload_n 0, 1) := by decide +kernel
theorem dX9_finds_203 : decode cX9_finds 203 = .ok (.getfield 32, 3) := by decide +kernel
theorem dX9_finds_206 : decode cX9_finds 206 = .ok (.iload_n 2, 1) := by decide +kernel
theorem dX9_finds_207 : decode cX9_finds 207 = .ok (.iconst (-1), 1) := by decide +kernel
theorem dX9_finds_208 : decode cX9_finds 208 = .ok (.iastore, 1) := by decide +kernel
theorem dX9_finds_209 : decode cX9_finds 209 = .ok (.goto (-200), 3) := by decide +kernel
theorem dX9_finds_212 : decode cX9_finds 212 = .ok (.iconst 0, 1) := by decide +kernel
theorem dX9_finds_213 : decode cX9_finds 213 = .ok (.ireturn, 1) := by decide +kernel
theorem dX9_struck_0 : decode cX9_struck 0 = .ok (.iconst 0, 1) := by decide +kernel
theorem dX9_struck_1 : decode cX9_struck 1 = .ok (.istore_n 1, 1) := by decide +kernel
theorem dX9_struck_2 : decode cX9_struck 2 = .ok (.iload_n 1, 1) := by decide +kernel
theorem dX9_struck_3 : decode cX9_struck 3 = .ok (.bipush 49, 2) := by decide +kernel
theorem dX9_struck_5 : decode cX9_struck 5 = .ok (.if_icmp .ge 24, 3) := by decide +kernel
theorem dX9_struck_8 : decode cX9_struck 8 = .ok (.aload_n 0, 1) := by decide +kernel
theorem dX9_struck_9 : decode cX9_struck 9 = .ok (.getfield 29, 3) := by decide +kernel
theorem dX9_struck_12 : decode cX9_struck 12 = .ok (.iload_n 1, 1) := by decide +kernel
theorem dX9_struck_13 : decode cX9_struck 13 = .ok (.aload_n 0, 1) := by decide +kernel
theorem dX9_struck_14 : decode cX9_struck 14 = .ok (.getfield 19, 3) := by decide +kernel
theorem dX9_struck_17 : decode cX9_struck 17 = .ok (.bipush 14, 2) := by decide +kernel
theorem dX9_struck_19 : decode cX9_struck 19 = .ok (.iload_n 1, 1) := by decide +kernel
theorem dX9_struck_20 : decode cX9_struck 20 = .ok (.iadd, 1) := by decide +kernel
theorem dX9_struck_21 : decode cX9_struck 21 = .ok (.iaload, 1) := by decide +kernel
theorem dX9_struck_22 : decode cX9_struck 22 = .ok (.iastore, 1) := by decide +kernel
theorem dX9_struck_23 : decode cX9_struck 23 = .ok (.iinc 1 1, 3) := by decide +kernel
theorem dX9_struck_26 : decode cX9_struck 26 = .ok (.goto (-24), 3) := by decide +kernel
theorem dX9_struck_29 : decode cX9_struck 29 = .ok (.iconst 0, 1) := by decide +kernel
theorem dX9_struck_30 : decode cX9_struck 30 = .ok (.istore_n 1, 1) := by decide +kernel
theorem dX9_struck_31 : decode cX9_struck 31 = .ok (.iconst 2, 1) := by decide +kernel
theorem dX9_struck_32 : decode cX9_struck 32 = .ok (.istore_n 2, 1) := by decide +kernel
theorem dX9_struck_33 : decode cX9_struck 33 = .ok (.iload_n 2, 1) := by decide +kernel
theorem dX9_struck_34 : decode cX9_struck 34 = .ok (.aload_n 0, 1) := by decide +kernel
theorem dX9_struck_35 : decode cX9_struck 35 = .ok (.getfield 13, 3) := by decide +kernel
theorem dX9_struck_38 : decode cX9_struck 38 = .ok (.iconst 0, 1) := by decide +kernel
theorem dX9_struck_39 : decode cX9_struck 39 = .ok (.iaload, 1) := by decide +kernel
theorem dX9_struck_40 : decode cX9_struck 40 = .ok (.if_icmp .gt 153, 3) := by decide +kernel
theorem dX9_struck_43 : decode cX9_struck 43 = .ok (.aload_n 0, 1) := by decide +kernel
theorem dX9_struck_44 : decode cX9_struck 44 = .ok (.iload_n 2, 1) := by decide +kernel
theorem dX9_struck_45 : decode cX9_struck 45 = .ok (.invokevirtual 132, 3) := by decide +kernel
theorem dX9_struck_48 : decode cX9_struck 48 = .ok (.ifCond .eq 139, 3) := by decide +kernel
theorem dX9_struck_51 : decode cX9_struck 51 = .ok (.aload_n 0, 1) := by decide +kernel
theorem dX9_struck_52 : decode cX9_struck 52 = .ok (.getfield 29, 3) := by decide +kernel
theorem dX9_struck_55 : decode cX9_struck 55 = .ok (.bipush 7, 2) := by decide +kernel
theorem dX9_struck_57 : decode cX9_struck 57 = .ok (.aload_n 0, 1) := by decide +kernel
theorem dX9_struck_58 : decode cX9_struck 58 = .ok (.getfield 32, 3) := by decide +kernel
theorem dX9_struck_61 : decode cX9_struck 61 = .ok (.iload_n 2, 1) := by decide +kernel
theorem dX9_struck_62 : decode cX9_struck 62 = .ok (.iconst 1, 1) := by decide +kernel
theorem dX9_struck_63 : decode cX9_struck 63 = .ok (.isub, 1) := by decide +kernel
theorem dX9_struck_64 : decode cX9_struck 64 = .ok (.iaload, 1) := by decide +kernel
theorem dX9_struck_65 : decode cX9_struck 65 = .ok (.imul, 1) := by decide +kernel
theorem dX9_struck_66 : decode cX9_struck 66 = .ok (.aload_n 0, 1) := by decide +kernel
theorem dX9_struck_67 : decode cX9_struck 67 = .ok (.getfield 32, 3) := by decide +kernel
theorem dX9_struck_70 : decode cX9_struck 70 = .ok (.iconst 0, 1) := by decide +kernel
theorem dX9_struck_71 : decode cX9_struck 71 = .ok (.iaload, 1) := by decide +kernel
theorem dX9_struck_72 : decode cX9_struck 72 = .ok (.iadd, 1) := by decide +kernel
theorem dX9_struck_73 : decode cX9_struck 73 = .ok (.iaload, 1) := by decide +kernel
theorem dX9_struck_74 : decode cX9_struck 74 = .ok (.istore_n 3, 1) := by decide +kernel
theorem dX9_struck_75 : decode cX9_struck 75 = .ok (.iconst 0, 1) := by decide +kernel
theorem dX9_struck_76 : decode cX9_struck 76 = .ok (.istore 4, 2) := by decide +kernel
theorem dX9_struck_78 : decode cX9_struck 78 = .ok (.iload 4, 2) := by decide +kernel
theorem dX9_struck_80 : decode cX9_struck 80 = .ok (.iconst 1, 1) := by decide +kernel
theorem dX9_struck_81 : decode cX9_struck 81 = .ok (.iadd, 1) := by decide +kernel
theorem dX9_struck_82 : decode cX9_struck 82 = .ok (.iload_n 2, 1) := by decide +kernel
theorem dX9_struck_83 : decode cX9_struck 83 = .ok (.if_icmp .ge 49, 3) := by decide +kernel
theorem dX9_struck_86 : decode cX9_struck 86 = .ok (.aload_n 0, 1) := by decide +kernel
theorem dX9_struck_87 : decode cX9_struck 87 = .ok (.getfield 29, 3) := by decide +kernel
theorem dX9_struck_90 : decode cX9_struck 90 = .ok (.bipush 7, 2) := by decide +kernel
theorem dX9_struck_92 : decode cX9_struck 92 = .ok (.aload_n 0, 1) := by decide +kernel
theorem dX9_struck_93 : decode cX9_struck 93 = .ok (.getfield 32, 3) := by decide +kernel
theorem dX9_struck_96 : decode cX9_struck 96 = .ok (.iload 4, 2) := by decide +kernel
theorem dX9_struck_98 : decode cX9_struck 98 = .ok (.iaload, 1) := by decide +kernel
theorem dX9_struck_99 : decode cX9_struck 99 = .ok (.imul, 1) := by decide +kernel
theorem dX9_struck_100 : decode cX9_struck 100 = .ok (.aload_n 0, 1) := by decide +kernel
theorem dX9_struck_101 : decode cX9_struck 101 = .ok (.getfield 32, 3) := by decide +kernel
theorem dX9_struck_104 : decode cX9_struck 104 = .ok (.iload 4, 2) := by decide +kernel
theorem dX9_struck_106 : decode cX9_struck 106 = .ok (.iconst 1, 1) := by decide +kernel
theorem dX9_struck_107 : decode cX9_struck 107 = .ok (.iadd, 1) := by decide +kernel
theorem dX9_struck_108 : decode cX9_struck 108 = .ok (.iaload, 1) := by decide +kernel
theorem dX9_struck_109 : decode cX9_struck 109 = .ok (.iadd, 1) := by decide +kernel
theorem dX9_struck_110 : decode cX9_struck 110 = .ok (.iaload, 1) := by decide +kernel
theorem dX9_struck_111 : decode cX9_struck 111 = .ok (.istore 5, 2) := by decide +kernel
theorem dX9_struck_113 : decode cX9_struck 113 = .ok (.iload 5, 2) := by decide +kernel
theorem dX9_struck_115 : decode cX9_struck 115 = .ok (.iload_n 3, 1) := by decide +kernel
theorem dX9_struck_116 : decode cX9_struck 116 = .ok (.if_icmp .ge 8, 3) := by decide +kernel
theorem dX9_struck_119 : decode cX9_struck 119 = .ok (.iload 5, 2) := by decide +kernel
theorem dX9_struck_121 : decode cX9_struck 121 = .ok (.goto 4, 3) := by decide +kernel
theorem dX9_struck_124 : decode cX9_struck 124 = .ok (.iload_n 3, 1) := by decide +kernel
theorem dX9_struck_125 : decode cX9_struck 125 = .ok (.istore_n 3, 1) := by decide +kernel
theorem dX9_struck_126 : decode cX9_struck 126 = .ok (.iinc 4 1, 3) := by decide +kernel
theorem dX9_struck_129 : decode cX9_struck 129 = .ok (.goto (-51), 3) := by decide +kernel
theorem dX9_struck_132 : decode cX9_struck 132 = .ok (.iconst 0, 1) := by decide +kernel
theorem dX9_struck_133 : decode cX9_struck 133 = .ok (.istore 4, 2) := by decide +kernel
theorem dX9_struck_135 : decode cX9_struck 135 = .ok (.iload 4, 2) := by decide +kernel
theorem dX9_struck_137 : decode cX9_struck 137 = .ok (.iload_n 2, 1) := by decide +kernel
theorem dX9_struck_138 : decode cX9_struck 138 = .ok (.if_icmp .ge 40, 3) := by decide +kernel
theorem dX9_struck_141 : decode cX9_struck 141 = .ok (.aload_n 0, 1) := by decide +kernel
theorem dX9_struck_142 : decode cX9_struck 142 = .ok (.getfield 29, 3) := by decide +kernel
theorem dX9_struck_145 : decode cX9_struck 145 = .ok (.bipush 7, 2) := by decide +kernel
theorem dX9_struck_147 : decode cX9_struck 147 = .ok (.aload_n 0, 1) := by decide +kernel
theorem dX9_struck_148 : decode cX9_struck 148 = .ok (.getfield 32, 3) := by decide +kernel
theorem dX9_struck_151 : decode cX9_struck 151 = .ok (.iload 4, 2) := by decide +kernel
theorem dX9_struck_153 : decode cX9_struck 153 = .ok (.iaload, 1) := by decide +kernel
theorem dX9_struck_154 : decode cX9_struck 154 = .ok (.imul, 1) := by decide +kernel
theorem dX9_struck_155 : decode cX9_struck 155 = .ok (.aload_n 0, 1) := by decide +kernel
theorem dX9_struck_156 : decode cX9_struck 156 = .ok (.getfield 32, 3) := by decide +kernel
theorem dX9_struck_159 : decode cX9_struck 159 = .ok (.iload 4, 2) := by decide +kernel
theorem dX9_struck_161 : decode cX9_struck 161 = .ok (.iconst 1, 1) := by decide +kernel
theorem dX9_struck_162 : decode cX9_struck 162 = .ok (.iadd, 1) := by decide +kernel
theorem dX9_struck_163 : decode cX9_struck 163 = .ok (.iload_n 2, 1) := by decide +kernel
theorem dX9_struck_164 : decode cX9_struck 164 = .ok (.irem, 1) := by decide +kernel
theorem dX9_struck_165 : decode cX9_struck 165 = .ok (.iaload, 1) := by decide +kernel
theorem dX9_struck_166 : decode cX9_struck 166 = .ok (.iadd, 1) := by decide +kernel
theorem dX9_struck_167 : decode cX9_struck 167 = .ok (.dup2, 1) := by decide +kernel
theorem dX9_struck_168 : decode cX9_struck 168 = .ok (.iaload, 1) := by decide +kernel
theorem dX9_struck_169 : decode cX9_struck 169 = .ok (.iload_n 3, 1) := by decide +kernel
theorem dX9_struck_170 : decode cX9_struck 170 = .ok (.isub, 1) := by decide +kernel
theorem dX9_struck_171 : decode cX9_struck 171 = .ok (.iastore, 1) := by decide +kernel
theorem dX9_struck_172 : decode cX9_struck 172 = .ok (.iinc 4 1, 3) := by decide +kernel
theorem dX9_struck_175 : decode cX9_struck 175 = .ok (.goto (-40), 3) := by decide +kernel
theorem dX9_struck_178 : decode cX9_struck 178 = .ok (.iload_n 1, 1) := by decide +kernel
theorem dX9_struck_179 : decode cX9_struck 179 = .ok (.iload_n 2, 1) := by decide +kernel
theorem dX9_struck_180 : decode cX9_struck 180 = .ok (.iload_n 3, 1) := by decide +kernel
theorem dX9_struck_181 : decode cX9_struck 181 = .ok (.imul, 1) := by decide +kernel
theorem dX9_struck_182 : decode cX9_struck 182 = .ok (.iadd, 1) := by decide +kernel
theorem dX9_struck_183 : decode cX9_struck 183 = .ok (.istore_n 1, 1) := by decide +kernel
theorem dX9_struck_184 : decode cX9_struck 184 = .ok (.goto (-151), 3) := by decide +kernel
theorem dX9_struck_187 : decode cX9_struck 187 = .ok (.iinc 2 1, 3) := by decide +kernel
theorem dX9_struck_190 : decode cX9_struck 190 = .ok (.goto (-157), 3) := by decide +kernel
theorem dX9_struck_193 : decode cX9_struck 193 = .ok (.iload_n 1, 1) := by decide +kernel
theorem dX9_struck_194 : decode cX9_struck 194 = .ok (.ireturn, 1) := by decide +kernel
theorem dX9_now_0 : decode cX9_now 0 = .ok (.iconst 0, 1) := by decide +kernel
theorem dX9_now_1 : decode cX9_now 1 = .ok (.istore_n 2, 1) := by decide +kernel
theorem dX9_now_2 : decode cX9_now 2 = .ok (.iconst 0, 1) := by decide +kernel
theorem dX9_now_3 : decode cX9_now 3 = .ok (.istore_n 3, 1) := by decide +kernel
theorem dX9_now_4 : decode cX9_now 4 = .ok (.iload_n 3, 1) := by decide +kernel
theorem dX9_now_5 : decode cX9_now 5 = .ok (.aload_n 0, 1) := by decide +kernel
theorem dX9_now_6 : decode cX9_now 6 = .ok (.getfield 13, 3) := by decide +kernel
theorem dX9_now_9 : decode cX9_now 9 = .ok (.iconst 0, 1) := by decide +kernel
theorem dX9_now_10 : decode cX9_now 10 = .ok (.iaload, 1) := by decide +kernel
theorem dX9_now_11 : decode cX9_now 11 = .ok (.if_icmp .ge 28, 3) := by decide +kernel
theorem dX9_now_14 : decode cX9_now 14 = .ok (.iload_n 2, 1) := by decide +kernel
theorem dX9_now_15 : decode cX9_now 15 = .ok (.aload_n 0, 1) := by decide +kernel
theorem dX9_now_16 : decode cX9_now 16 = .ok (.getfield 19, 3) := by decide +kernel
theorem dX9_now_19 : decode cX9_now 19 = .ok (.iload_n 3, 1) := by decide +kernel
theorem dX9_now_20 : decode cX9_now 20 = .ok (.iaload, 1) := by decide +kernel
theorem dX9_now_21 : decode cX9_now 21 = .ok (.ifCond .ne 9, 3) := by decide +kernel
theorem dX9_now_24 : decode cX9_now 24 = .ok (.iconst 1, 1) := by decide +kernel
theorem dX9_now_25 : decode cX9_now 25 = .ok (.iload_n 3, 1) := by decide +kernel
theorem dX9_now_26 : decode cX9_now 26 = .ok (.ishl, 1) := by decide +kernel
theorem dX9_now_27 : decode cX9_now 27 = .ok (.goto 4, 3) := by decide +kernel
theorem dX9_now_30 : decode cX9_now 30 = .ok (.iconst 0, 1) := by decide +kernel
theorem dX9_now_31 : decode cX9_now 31 = .ok (.ior, 1) := by decide +kernel
theorem dX9_now_32 : decode cX9_now 32 = .ok (.istore_n 2, 1) := by decide +kernel
theorem dX9_now_33 : decode cX9_now 33 = .ok (.iinc 3 1, 3) := by decide +kernel
theorem dX9_now_36 : decode cX9_now 36 = .ok (.goto (-32), 3) := by decide +kernel
theorem dX9_now_39 : decode cX9_now 39 = .ok (.iload_n 1, 1) := by decide +kernel
theorem dX9_now_40 : decode cX9_now 40 = .ok (.tableswitch 73 0 5 #[40, 48, 53, 55, 63, 68], 40) := by decide +kernel
theorem dX9_now_80 : decode cX9_now 80 = .ok (.aload_n 0, 1) := by decide +kernel
theorem dX9_now_81 : decode cX9_now 81 = .ok (.getfield 19, 3) := by decide +kernel
theorem dX9_now_84 : decode cX9_now 84 = .ok (.bipush 64, 2) := by decide +kernel
theorem dX9_now_86 : decode cX9_now 86 = .ok (.iaload, 1) := by decide +kernel
theorem dX9_now_87 : decode cX9_now 87 = .ok (.ireturn, 1) := by decide +kernel
theorem dX9_now_88 : decode cX9_now 88 = .ok (.aload_n 0, 1) := by decide +kernel
theorem dX9_now_89 : decode cX9_now 89 = .ok (.invokevirtual 128, 3) := by decide +kernel
theorem dX9_now_92 : decode cX9_now 92 = .ok (.ireturn, 1) := by decide +kernel
theorem dX9_now_93 : decode cX9_now 93 = .ok (.iload_n 2, 1) := by decide +kernel
theorem dX9_now_94 : decode cX9_now 94 = .ok (.ireturn, 1) := by decide +kernel
theorem dX9_now_95 : decode cX9_now 95 = .ok (.aload_n 0, 1) := by decide +kernel
theorem dX9_now_96 : decode cX9_now 96 = .ok (.getfield 19, 3) := by decide +kernel
theorem dX9_now_99 : decode cX9_now 99 = .ok (.bipush 63, 2) := by decide +kernel
theorem dX9_now_101 : decode cX9_now 101 = .ok (.iaload, 1) := by decide +kernel
theorem dX9_now_102 : decode cX9_now 102 = .ok (.ireturn, 1) := by decide +kernel
theorem dX9_now_103 : decode cX9_now 103 = .ok (.aload_n 0, 1) := by decide +kernel
theorem dX9_now_104 : decode cX9_now 104 = .ok (.invokevirtual 135, 3) := by decide +kernel
theorem dX9_now_107 : decode cX9_now 107 = .ok (.ireturn, 1) := by decide +kernel
theorem dX9_now_108 : decode cX9_now 108 = .ok (.aload_n 0, 1) := by decide +kernel
theorem dX9_now_109 : decode cX9_now 109 = .ok (.invokevirtual 138, 3) := by decide +kernel
theorem dX9_now_112 : decode cX9_now 112 = .ok (.ireturn, 1) := by decide +kernel
theorem dX9_now_113 : decode cX9_now 113 = .ok (.iconst (-1), 1) := by decide +kernel
theorem dX9_now_114 : decode cX9_now 114 = .ok (.ireturn, 1) := by decide +kernel
theorem dX9_other_0 : decode cX9_other 0 = .ok (.aload_n 0, 1) := by decide +kernel
theorem dX9_other_1 : decode cX9_other 1 = .ok (.getfield 13, 3) := by decide +kernel
theorem dX9_other_4 : decode cX9_other 4 = .ok (.bipush 6, 2) := by decide +kernel
theorem dX9_other_6 : decode cX9_other 6 = .ok (.iload_n 1, 1) := by decide +kernel
theorem dX9_other_7 : decode cX9_other 7 = .ok (.iadd, 1) := by decide +kernel
theorem dX9_other_8 : decode cX9_other 8 = .ok (.iaload, 1) := by decide +kernel
theorem dX9_other_9 : decode cX9_other 9 = .ok (.iload_n 2, 1) := by decide +kernel
theorem dX9_other_10 : decode cX9_other 10 = .ok (.if_icmp .ne 15, 3) := by decide +kernel
theorem dX9_other_13 : decode cX9_other 13 = .ok (.aload_n 0, 1) := by decide +kernel
theorem dX9_other_14 : decode cX9_other 14 = .ok (.getfield 13, 3) := by decide +kernel
theorem dX9_other_17 : decode cX9_other 17 = .ok (.bipush 13, 2) := by decide +kernel
theorem dX9_other_19 : decode cX9_other 19 = .ok (.iload_n 1, 1) := by decide +kernel
theorem dX9_other_20 : decode cX9_other 20 = .ok (.iadd, 1) := by decide +kernel
theorem dX9_other_21 : decode cX9_other 21 = .ok (.iaload, 1) := by decide +kernel
theorem dX9_other_22 : decode cX9_other 22 = .ok (.goto 29, 3) := by decide +kernel
theorem dX9_other_25 : decode cX9_other 25 = .ok (.aload_n 0, 1) := by decide +kernel
theorem dX9_other_26 : decode cX9_other 26 = .ok (.getfield 13, 3) := by decide +kernel
theorem dX9_other_29 : decode cX9_other 29 = .ok (.bipush 13, 2) := by decide +kernel
theorem dX9_other_31 : decode cX9_other 31 = .ok (.iload_n 1, 1) := by decide +kernel
theorem dX9_other_32 : decode cX9_other 32 = .ok (.iadd, 1) := by decide +kernel
theorem dX9_other_33 : decode cX9_other 33 = .ok (.iaload, 1) := by decide +kernel
theorem dX9_other_34 : decode cX9_other 34 = .ok (.iload_n 2, 1) := by decide +kernel
theorem dX9_other_35 : decode cX9_other 35 = .ok (.if_icmp .ne 15, 3) := by decide +kernel
theorem dX9_other_38 : decode cX9_other 38 = .ok (.aload_n 0, 1) := by decide +kernel
theorem dX9_other_39 : decode cX9_other 39 = .ok (.getfield 13, 3) := by decide +kernel
theorem dX9_other_42 : decode cX9_other 42 = .ok (.bipush 6, 2) := by decide +kernel
theorem dX9_other_44 : decode cX9_other 44 = .ok (.iload_n 1, 1) := by decide +kernel
theorem dX9_other_45 : decode cX9_other 45 = .ok (.iadd, 1) := by decide +kernel
theorem dX9_other_46 : decode cX9_other 46 = .ok (.iaload, 1) := by decide +kernel
theorem dX9_other_47 : decode cX9_other 47 = .ok (.goto 4, 3) := by decide +kernel
theorem dX9_other_50 : decode cX9_other 50 = .ok (.iconst (-1), 1) := by decide +kernel
theorem dX9_other_51 : decode cX9_other 51 = .ok (.ireturn, 1) := by decide +kernel
theorem dX9_weight_0 : decode cX9_weight 0 = .ok (.sipush 1000, 3) := by decide +kernel
theorem dX9_weight_3 : decode cX9_weight 3 = .ok (.aload_n 0, 1) := by decide +kernel
theorem dX9_weight_4 : decode cX9_weight 4 = .ok (.getfield 19, 3) := by decide +kernel
theorem dX9_weight_7 : decode cX9_weight 7 = .ok (.iload_n 1, 1) := by decide +kernel
theorem dX9_weight_8 : decode cX9_weight 8 = .ok (.iaload, 1) := by decide +kernel
theorem dX9_weight_9 : decode cX9_weight 9 = .ok (.imul, 1) := by decide +kernel
theorem dX9_weight_10 : decode cX9_weight 10 = .ok (.aload_n 0, 1) := by decide +kernel
theorem dX9_weight_11 : decode cX9_weight 11 = .ok (.getfield 13, 3) := by decide +kernel
theorem dX9_weight_14 : decode cX9_weight 14 = .ok (.bipush 20, 2) := by decide +kernel
theorem dX9_weight_16 : decode cX9_weight 16 = .ok (.iload_n 1, 1) := by decide +kernel
theorem dX9_weight_17 : decode cX9_weight 17 = .ok (.iadd, 1) := by decide +kernel
theorem dX9_weight_18 : decode cX9_weight 18 = .ok (.iaload, 1) := by decide +kernel
theorem dX9_weight_19 : decode cX9_weight 19 = .ok (.iadd, 1) := by decide +kernel
theorem dX9_weight_20 : decode cX9_weight 20 = .ok (.ireturn, 1) := by decide +kernel
theorem dX9_lays_0 : decode cX9_lays 0 = .ok (.iconst 0, 1) := by decide +kernel
theorem dX9_lays_1 : decode cX9_lays 1 = .ok (.istore_n 2, 1) := by decide +kernel
theorem dX9_lays_2 : decode cX9_lays 2 = .ok (.iload_n 2, 1) := by decide +kernel
theorem dX9_lays_3 : decode cX9_lays 3 = .ok (.bipush 7, 2) := by decide +kernel
theorem dX9_lays_5 : decode cX9_lays 5 = .ok (.if_icmp .ge 25, 3) := by decide +kernel
theorem dX9_lays_8 : decode cX9_lays 8 = .ok (.aload_n 0, 1) := by decide +kernel
theorem dX9_lays_9 : decode cX9_lays 9 = .ok (.getfield 35, 3) := by decide +kernel
theorem dX9_lays_12 : decode cX9_lays 12 = .ok (.iload_n 2, 1) := by decide +kernel
theorem dX9_lays_13 : decode cX9_lays 13 = .ok (.iload_n 2, 1) := by decide +kernel
theorem dX9_lays_14 : decode cX9_lays 14 = .ok (.iload_n 1, 1) := by decide +kernel
theorem dX9_lays_15 : decode cX9_lays 15 = .ok (.if_icmp .ne 7, 3) := by decide +kernel
theorem dX9_lays_18 : decode cX9_lays 18 = .ok (.iconst 0, 1) := by decide +kernel
theorem dX9_lays_19 : decode cX9_lays 19 = .ok (.goto 4, 3) := by decide +kernel
theorem dX9_lays_22 : decode cX9_lays 22 = .ok (.iconst (-1), 1) := by decide +kernel
theorem dX9_lays_23 : decode cX9_lays 23 = .ok (.iastore, 1) := by decide +kernel
theorem dX9_lays_24 : decode cX9_lays 24 = .ok (.iinc 2 1, 3) := by decide +kernel
theorem dX9_lays_27 : decode cX9_lays 27 = .ok (.goto (-25), 3) := by decide +kernel
theorem dX9_lays_30 : decode cX9_lays 30 = .ok (.iconst 0, 1) := by decide +kernel
theorem dX9_lays_31 : decode cX9_lays 31 = .ok (.istore_n 2, 1) := by decide +kernel
theorem dX9_lays_32 : decode cX9_lays 32 = .ok (.iload_n 2, 1) := by decide +kernel
theorem dX9_lays_33 : decode cX9_lays 33 = .ok (.bipush 7, 2) := by decide +kernel
theorem dX9_lays_35 : decode cX9_lays 35 = .ok (.if_icmp .ge 173, 3) := by decide +kernel
theorem dX9_lays_38 : decode cX9_lays 38 = .ok (.iconst 0, 1) := by decide +kernel
theorem dX9_lays_39 : decode cX9_lays 39 = .ok (.istore_n 3, 1) := by decide +kernel
theorem dX9_lays_40 : decode cX9_lays 40 = .ok (.iload_n 3, 1) := by decide +kernel
theorem dX9_lays_41 : decode cX9_lays 41 = .ok (.aload_n 0, 1) := by decide +kernel
theorem dX9_lays_42 : decode cX9_lays 42 = .ok (.getfield 13, 3) := by decide +kernel
theorem dX9_lays_45 : decode cX9_lays 45 = .ok (.iconst 0, 1) := by decide +kernel
theorem dX9_lays_46 : decode cX9_lays 46 = .ok (.iaload, 1) := by decide +kernel
theorem dX9_lays_47 : decode cX9_lays 47 = .ok (.if_icmp .ge 155, 3) := by decide +kernel
theorem dX9_lays_50 : decode cX9_lays 50 = .ok (.iconst 0, 1) := by decide +kernel
theorem dX9_lays_51 : decode cX9_lays 51 = .ok (.istore 4, 2) := by decide +kernel
theorem dX9_lays_53 : decode cX9_lays 53 = .ok (.iload 4, 2) := by decide +kernel
theorem dX9_lays_55 : decode cX9_lays 55 = .ok (.iconst 2, 1) := by decide +kernel
theorem dX9_lays_56 : decode cX9_lays 56 = .ok (.if_icmp .ge 140, 3) := by decide +kernel
theorem dX9_lays_59 : decode cX9_lays 59 = .ok (.iload 4, 2) := by decide +kernel
theorem dX9_lays_61 : decode cX9_lays 61 = .ok (.ifCond .ne 15, 3) := by decide +kernel
theorem dX9_lays_64 : decode cX9_lays 64 = .ok (.aload_n 0, 1) := by decide +kernel
theorem dX9_lays_65 : decode cX9_lays 65 = .ok (.getfield 13, 3) := by decide +kernel
theorem dX9_lays_68 : decode cX9_lays 68 = .ok (.bipush 6, 2) := by decide +kernel
theorem dX9_lays_70 : decode cX9_lays 70 = .ok (.iload_n 3, 1) := by decide +kernel
theorem dX9_lays_71 : decode cX9_lays 71 = .ok (.iadd, 1) := by decide +kernel
theorem dX9_lays_72 : decode cX9_lays 72 = .ok (.iaload, 1) := by decide +kernel
theorem dX9_lays_73 : decode cX9_lays 73 = .ok (.goto 12, 3) := by decide +kernel
theorem dX9_lays_76 : decode cX9_lays 76 = .ok (.aload_n 0, 1) := by decide +kernel
theorem dX9_lays_77 : decode cX9_lays 77 = .ok (.getfield 13, 3) := by decide +kernel
theorem dX9_lays_80 : decode cX9_lays 80 = .ok (.bipush 13, 2) := by decide +kernel
theorem dX9_lays_82 : decode cX9_lays 82 = .ok (.iload_n 3, 1) := by decide +kernel
theorem dX9_lays_83 : decode cX9_lays 83 = .ok (.iadd, 1) := by decide +kernel
theorem dX9_lays_84 : decode cX9_lays 84 = .ok (.iaload, 1) := by decide +kernel
theorem dX9_lays_85 : decode cX9_lays 85 = .ok (.istore 5, 2) := by decide +kernel
theorem dX9_lays_87 : decode cX9_lays 87 = .ok (.iload 4, 2) := by decide +kernel
theorem dX9_lays_89 : decode cX9_lays 89 = .ok (.ifCond .ne 15, 3) := by decide +kernel
theorem dX9_lays_92 : decode cX9_lays 92 = .ok (.aload_n 0, 1) := by decide +kernel
theorem dX9_lays_93 : decode cX9_lays 93 = .ok (.getfield 13, 3) := by decide +kernel
theorem dX9_lays_96 : decode cX9_lays 96 = .ok (.bipush 13, 2) := by decide +kernel
theorem dX9_lays_98 : decode cX9_lays 98 = .ok (.iload_n 3, 1) := by decide +kernel
theorem dX9_lays_99 : decode cX9_lays 99 = .ok (.iadd, 1) := by decide +kernel
theorem dX9_lays_100 : decode cX9_lays 100 = .ok (.iaload, 1) := by decide +kernel
theorem dX9_lays_101 : decode cX9_lays 101 = .ok (.goto 12, 3) := by decide +kernel
theorem dX9_lays_104 : decode cX9_lays 104 = .ok (.aload_n 0, 1) := by decide +kernel
theorem dX9_lays_105 : decode cX9_lays 105 = .ok (.getfield 13, 3) := by decide +kernel
theorem dX9_lays_108 : decode cX9_lays 108 = .ok (.bipush 6, 2) := by decide +kernel
theorem dX9_lays_110 : decode cX9_lays 110 = .ok (.iload_n 3, 1) := by decide +kernel
theorem dX9_lays_111 : decode cX9_lays 111 = .ok (.iadd, 1) := by decide +kernel
theorem dX9_lays_112 : decode cX9_lays 112 = .ok (.iaload, 1) := by decide +kernel
theorem dX9_lays_113 : decode cX9_lays 113 = .ok (.istore 6, 2) := by decide +kernel
theorem dX9_lays_115 : decode cX9_lays 115 = .ok (.aload_n 0, 1) := by decide +kernel
theorem dX9_lays_116 : decode cX9_lays 116 = .ok (.getfield 35, 3) := by decide +kernel
theorem dX9_lays_119 : decode cX9_lays 119 = .ok (.iload 6, 2) := by decide +kernel
theorem dX9_lays_121 : decode cX9_lays 121 = .ok (.iaload, 1) := by decide +kernel
theorem dX9_lays_122 : decode cX9_lays 122 = .ok (.ifCond .ge 7, 3) := by decide +kernel
theorem dX9_lays_125 : decode cX9_lays 125 = .ok (.iconst (-1), 1) := by decide +kernel
theorem dX9_lays_126 : decode cX9_lays 126 = .ok (.goto 16, 3) := by decide +kernel
theorem dX9_lays_129 : decode cX9_lays 129 = .ok (.aload_n 0, 1) := by decide +kernel
theorem dX9_lays_130 : decode cX9_lays 130 = .ok (.getfield 35, 3) := by decide +kernel
theorem dX9_lays_133 : decode cX9_lays 133 = .ok (.iload 6, 2) := by decide +kernel
theorem dX9_lays_135 : decode cX9_lays 135 = .ok (.iaload, 1) := by decide +kernel
theorem dX9_lays_136 : decode cX9_lays 136 = .ok (.aload_n 0, 1) := by decide +kernel
theorem dX9_lays_137 : decode cX9_lays 137 = .ok (.iload_n 3, 1) := by decide +kernel
end
section
theorem dX9_lays_138 : decode cX9_lays 138 = .ok (.invokevirtual 141, 3) := by decide +kernel
theorem dX9_lays_141 : decode cX9_lays 141 = .ok (.iadd, 1) := by decide +kernel
theorem dX9_lays_142 : decode cX9_lays 142 = .ok (.istore 7, 2) := by decide +kernel
theorem dX9_lays_144 : decode cX9_lays 144 = .ok (.aload_n 0, 1) := by decide +kernel
theorem dX9_lays_145 : decode cX9_lays 145 = .ok (.getfield 35, 3) := by decide +kernel
theorem dX9_lays_148 : decode cX9_lays 148 = .ok (.iload 5, 2) := by decide +kernel
theorem dX9_lays_150 : decode cX9_lays 150 = .ok (.iload 7, 2) := by decide +kernel
theorem dX9_lays_152 : decode cX9_lays 152 = .ok (.ifCond .lt 30, 3) := by decide +kernel
theorem dX9_lays_155 : decode cX9_lays 155 = .ok (.aload_n 0, 1) := by decide +kernel
theorem dX9_lays_156 : decode cX9_lays 156 = .ok (.getfield 35, 3) := by decide +kernel
theorem dX9_lays_159 : decode cX9_lays 159 = .ok (.iload 5, 2) := by decide +kernel
theorem dX9_lays_161 : decode cX9_lays 161 = .ok (.iaload, 1) := by decide +kernel
theorem dX9_lays_162 : decode cX9_lays 162 = .ok (.ifCond .lt 15, 3) := by decide +kernel
theorem dX9_lays_165 : decode cX9_lays 165 = .ok (.iload 7, 2) := by decide +kernel
theorem dX9_lays_167 : decode cX9_lays 167 = .ok (.aload_n 0, 1) := by decide +kernel
theorem dX9_lays_168 : decode cX9_lays 168 = .ok (.getfield 35, 3) := by decide +kernel
theorem dX9_lays_171 : decode cX9_lays 171 = .ok (.iload 5, 2) := by decide +kernel
theorem dX9_lays_173 : decode cX9_lays 173 = .ok (.iaload, 1) := by decide +kernel
theorem dX9_lays_174 : decode cX9_lays 174 = .ok (.if_icmp .ge 8, 3) := by decide +kernel
theorem dX9_lays_177 : decode cX9_lays 177 = .ok (.iload 7, 2) := by decide +kernel
theorem dX9_lays_179 : decode cX9_lays 179 = .ok (.goto 10, 3) := by decide +kernel
theorem dX9_lays_182 : decode cX9_lays 182 = .ok (.aload_n 0, 1) := by decide +kernel
theorem dX9_lays_183 : decode cX9_lays 183 = .ok (.getfield 35, 3) := by decide +kernel
theorem dX9_lays_186 : decode cX9_lays 186 = .ok (.iload 5, 2) := by decide +kernel
theorem dX9_lays_188 : decode cX9_lays 188 = .ok (.iaload, 1) := by decide +kernel
theorem dX9_lays_189 : decode cX9_lays 189 = .ok (.iastore, 1) := by decide +kernel
theorem dX9_lays_190 : decode cX9_lays 190 = .ok (.iinc 4 1, 3) := by decide +kernel
theorem dX9_lays_193 : decode cX9_lays 193 = .ok (.goto (-140), 3) := by decide +kernel
theorem dX9_lays_196 : decode cX9_lays 196 = .ok (.iinc 3 1, 3) := by decide +kernel
theorem dX9_lays_199 : decode cX9_lays 199 = .ok (.goto (-159), 3) := by decide +kernel
theorem dX9_lays_202 : decode cX9_lays 202 = .ok (.iinc 2 1, 3) := by decide +kernel
theorem dX9_lays_205 : decode cX9_lays 205 = .ok (.goto (-173), 3) := by decide +kernel
theorem dX9_lays_208 : decode cX9_lays 208 = .ok (.return_, 1) := by decide +kernel
theorem dX9_surest_0 : decode cX9_surest 0 = .ok (.iload_n 1, 1) := by decide +kernel
theorem dX9_surest_1 : decode cX9_surest 1 = .ok (.invokestatic 144, 3) := by decide +kernel
theorem dX9_surest_4 : decode cX9_surest 4 = .ok (.ifCond .eq 19, 3) := by decide +kernel
theorem dX9_surest_7 : decode cX9_surest 7 = .ok (.iload_n 2, 1) := by decide +kernel
theorem dX9_surest_8 : decode cX9_surest 8 = .ok (.invokestatic 144, 3) := by decide +kernel
theorem dX9_surest_11 : decode cX9_surest 11 = .ok (.ifCond .eq 12, 3) := by decide +kernel
theorem dX9_surest_14 : decode cX9_surest 14 = .ok (.iload_n 3, 1) := by decide +kernel
theorem dX9_surest_15 : decode cX9_surest 15 = .ok (.iconst 0, 1) := by decide +kernel
theorem dX9_surest_16 : decode cX9_surest 16 = .ok (.iconst 2, 1) := by decide +kernel
theorem dX9_surest_17 : decode cX9_surest 17 = .ok (.invokestatic 54, 3) := by decide +kernel
theorem dX9_surest_20 : decode cX9_surest 20 = .ok (.ifCond .ne 5, 3) := by decide +kernel
theorem dX9_surest_23 : decode cX9_surest 23 = .ok (.iconst (-1), 1) := by decide +kernel
theorem dX9_surest_24 : decode cX9_surest 24 = .ok (.ireturn, 1) := by decide +kernel
theorem dX9_surest_25 : decode cX9_surest 25 = .ok (.aload_n 0, 1) := by decide +kernel
theorem dX9_surest_26 : decode cX9_surest 26 = .ok (.iload_n 2, 1) := by decide +kernel
theorem dX9_surest_27 : decode cX9_surest 27 = .ok (.invokevirtual 147, 3) := by decide +kernel
theorem dX9_surest_30 : decode cX9_surest 30 = .ok (.aload_n 0, 1) := by decide +kernel
theorem dX9_surest_31 : decode cX9_surest 31 = .ok (.getfield 35, 3) := by decide +kernel
theorem dX9_surest_34 : decode cX9_surest 34 = .ok (.iload_n 1, 1) := by decide +kernel
theorem dX9_surest_35 : decode cX9_surest 35 = .ok (.iaload, 1) := by decide +kernel
theorem dX9_surest_36 : decode cX9_surest 36 = .ok (.ifCond .ge 6, 3) := by decide +kernel
theorem dX9_surest_39 : decode cX9_surest 39 = .ok (.bipush (-9), 2) := by decide +kernel
theorem dX9_surest_41 : decode cX9_surest 41 = .ok (.ireturn, 1) := by decide +kernel
theorem dX9_surest_42 : decode cX9_surest 42 = .ok (.bipush (-9), 2) := by decide +kernel
theorem dX9_surest_44 : decode cX9_surest 44 = .ok (.istore 4, 2) := by decide +kernel
theorem dX9_surest_46 : decode cX9_surest 46 = .ok (.aload_n 0, 1) := by decide +kernel
theorem dX9_surest_47 : decode cX9_surest 47 = .ok (.getfield 13, 3) := by decide +kernel
theorem dX9_surest_50 : decode cX9_surest 50 = .ok (.iconst 0, 1) := by decide +kernel
theorem dX9_surest_51 : decode cX9_surest 51 = .ok (.iaload, 1) := by decide +kernel
theorem dX9_surest_52 : decode cX9_surest 52 = .ok (.iconst 1, 1) := by decide +kernel
theorem dX9_surest_53 : decode cX9_surest 53 = .ok (.isub, 1) := by decide +kernel
theorem dX9_surest_54 : decode cX9_surest 54 = .ok (.istore 5, 2) := by decide +kernel
theorem dX9_surest_56 : decode cX9_surest 56 = .ok (.iload 5, 2) := by decide +kernel
theorem dX9_surest_58 : decode cX9_surest 58 = .ok (.ifCond .lt 82, 3) := by decide +kernel
theorem dX9_surest_61 : decode cX9_surest 61 = .ok (.aload_n 0, 1) := by decide +kernel
theorem dX9_surest_62 : decode cX9_surest 62 = .ok (.iload 5, 2) := by decide +kernel
theorem dX9_surest_64 : decode cX9_surest 64 = .ok (.iload_n 1, 1) := by decide +kernel
theorem dX9_surest_65 : decode cX9_surest 65 = .ok (.invokevirtual 151, 3) := by decide +kernel
theorem dX9_surest_68 : decode cX9_surest 68 = .ok (.istore 6, 2) := by decide +kernel
theorem dX9_surest_70 : decode cX9_surest 70 = .ok (.iload 6, 2) := by decide +kernel
theorem dX9_surest_72 : decode cX9_surest 72 = .ok (.ifCond .lt 45, 3) := by decide +kernel
theorem dX9_surest_75 : decode cX9_surest 75 = .ok (.aload_n 0, 1) := by decide +kernel
theorem dX9_surest_76 : decode cX9_surest 76 = .ok (.getfield 35, 3) := by decide +kernel
theorem dX9_surest_79 : decode cX9_surest 79 = .ok (.iload 6, 2) := by decide +kernel
theorem dX9_surest_81 : decode cX9_surest 81 = .ok (.iaload, 1) := by decide +kernel
theorem dX9_surest_82 : decode cX9_surest 82 = .ok (.ifCond .lt 35, 3) := by decide +kernel
theorem dX9_surest_85 : decode cX9_surest 85 = .ok (.iload_n 1, 1) := by decide +kernel
theorem dX9_surest_86 : decode cX9_surest 86 = .ok (.iload_n 2, 1) := by decide +kernel
theorem dX9_surest_87 : decode cX9_surest 87 = .ok (.if_icmp .eq 30, 3) := by decide +kernel
theorem dX9_surest_90 : decode cX9_surest 90 = .ok (.aload_n 0, 1) := by decide +kernel
theorem dX9_surest_91 : decode cX9_surest 91 = .ok (.getfield 35, 3) := by decide +kernel
theorem dX9_surest_94 : decode cX9_surest 94 = .ok (.iload 6, 2) := by decide +kernel
theorem dX9_surest_96 : decode cX9_surest 96 = .ok (.iaload, 1) := by decide +kernel
theorem dX9_surest_97 : decode cX9_surest 97 = .ok (.aload_n 0, 1) := by decide +kernel
theorem dX9_surest_98 : decode cX9_surest 98 = .ok (.iload 5, 2) := by decide +kernel
theorem dX9_surest_100 : decode cX9_surest 100 = .ok (.invokevirtual 141, 3) := by decide +kernel
theorem dX9_surest_103 : decode cX9_surest 103 = .ok (.iadd, 1) := by decide +kernel
theorem dX9_surest_104 : decode cX9_surest 104 = .ok (.aload_n 0, 1) := by decide +kernel
theorem dX9_surest_105 : decode cX9_surest 105 = .ok (.getfield 35, 3) := by decide +kernel
theorem dX9_surest_108 : decode cX9_surest 108 = .ok (.iload_n 1, 1) := by decide +kernel
theorem dX9_surest_109 : decode cX9_surest 109 = .ok (.iaload, 1) := by decide +kernel
theorem dX9_surest_110 : decode cX9_surest 110 = .ok (.if_icmp .ne 7, 3) := by decide +kernel
theorem dX9_surest_113 : decode cX9_surest 113 = .ok (.iconst 1, 1) := by decide +kernel
theorem dX9_surest_114 : decode cX9_surest 114 = .ok (.goto 4, 3) := by decide +kernel
theorem dX9_surest_117 : decode cX9_surest 117 = .ok (.iconst 0, 1) := by decide +kernel
theorem dX9_surest_118 : decode cX9_surest 118 = .ok (.istore 7, 2) := by decide +kernel
theorem dX9_surest_120 : decode cX9_surest 120 = .ok (.iload 7, 2) := by decide +kernel
theorem dX9_surest_122 : decode cX9_surest 122 = .ok (.ifCond .eq 8, 3) := by decide +kernel
theorem dX9_surest_125 : decode cX9_surest 125 = .ok (.iload 5, 2) := by decide +kernel
theorem dX9_surest_127 : decode cX9_surest 127 = .ok (.goto 5, 3) := by decide +kernel
theorem dX9_surest_130 : decode cX9_surest 130 = .ok (.iload 4, 2) := by decide +kernel
theorem dX9_surest_132 : decode cX9_surest 132 = .ok (.istore 4, 2) := by decide +kernel
theorem dX9_surest_134 : decode cX9_surest 134 = .ok (.iinc 5 (-1), 3) := by decide +kernel
theorem dX9_surest_137 : decode cX9_surest 137 = .ok (.goto (-81), 3) := by decide +kernel
theorem dX9_surest_140 : decode cX9_surest 140 = .ok (.iload_n 3, 1) := by decide +kernel
theorem dX9_surest_141 : decode cX9_surest 141 = .ok (.ifCond .ne 16, 3) := by decide +kernel
theorem dX9_surest_144 : decode cX9_surest 144 = .ok (.aload_n 0, 1) := by decide +kernel
theorem dX9_surest_145 : decode cX9_surest 145 = .ok (.getfield 35, 3) := by decide +kernel
theorem dX9_surest_148 : decode cX9_surest 148 = .ok (.iload_n 1, 1) := by decide +kernel
theorem dX9_surest_149 : decode cX9_surest 149 = .ok (.iaload, 1) := by decide +kernel
theorem dX9_surest_150 : decode cX9_surest 150 = .ok (.sipush 1000, 3) := by decide +kernel
theorem dX9_surest_153 : decode cX9_surest 153 = .ok (.idiv, 1) := by decide +kernel
theorem dX9_surest_154 : decode cX9_surest 154 = .ok (.goto 23, 3) := by decide +kernel
theorem dX9_surest_157 : decode cX9_surest 157 = .ok (.iload_n 3, 1) := by decide +kernel
theorem dX9_surest_158 : decode cX9_surest 158 = .ok (.iconst 1, 1) := by decide +kernel
theorem dX9_surest_159 : decode cX9_surest 159 = .ok (.if_icmp .ne 16, 3) := by decide +kernel
theorem dX9_surest_162 : decode cX9_surest 162 = .ok (.aload_n 0, 1) := by decide +kernel
theorem dX9_surest_163 : decode cX9_surest 163 = .ok (.getfield 35, 3) := by decide +kernel
theorem dX9_surest_166 : decode cX9_surest 166 = .ok (.iload_n 1, 1) := by decide +kernel
theorem dX9_surest_167 : decode cX9_surest 167 = .ok (.iaload, 1) := by decide +kernel
theorem dX9_surest_168 : decode cX9_surest 168 = .ok (.sipush 1000, 3) := by decide +kernel
theorem dX9_surest_171 : decode cX9_surest 171 = .ok (.irem, 1) := by decide +kernel
theorem dX9_surest_172 : decode cX9_surest 172 = .ok (.goto 5, 3) := by decide +kernel
theorem dX9_surest_175 : decode cX9_surest 175 = .ok (.iload 4, 2) := by decide +kernel
theorem dX9_surest_177 : decode cX9_surest 177 = .ok (.ireturn, 1) := by decide +kernel
theorem dX9_isWay_0 : decode cX9_isWay 0 = .ok (.iconst 1, 1) := by decide +kernel
theorem dX9_isWay_1 : decode cX9_isWay 1 = .ok (.iload_n 1, 1) := by decide +kernel
theorem dX9_isWay_2 : decode cX9_isWay 2 = .ok (.ishl, 1) := by decide +kernel
theorem dX9_isWay_3 : decode cX9_isWay 3 = .ok (.istore 4, 2) := by decide +kernel
theorem dX9_isWay_5 : decode cX9_isWay 5 = .ok (.iconst 0, 1) := by decide +kernel
theorem dX9_isWay_6 : decode cX9_isWay 6 = .ok (.istore 5, 2) := by decide +kernel
theorem dX9_isWay_8 : decode cX9_isWay 8 = .ok (.iload 5, 2) := by decide +kernel
theorem dX9_isWay_10 : decode cX9_isWay 10 = .ok (.bipush 7, 2) := by decide +kernel
theorem dX9_isWay_12 : decode cX9_isWay 12 = .ok (.if_icmp .ge 106, 3) := by decide +kernel
theorem dX9_isWay_15 : decode cX9_isWay 15 = .ok (.iconst 0, 1) := by decide +kernel
theorem dX9_isWay_16 : decode cX9_isWay 16 = .ok (.istore 6, 2) := by decide +kernel
theorem dX9_isWay_18 : decode cX9_isWay 18 = .ok (.iload 6, 2) := by decide +kernel
theorem dX9_isWay_20 : decode cX9_isWay 20 = .ok (.aload_n 0, 1) := by decide +kernel
theorem dX9_isWay_21 : decode cX9_isWay 21 = .ok (.getfield 13, 3) := by decide +kernel
theorem dX9_isWay_24 : decode cX9_isWay 24 = .ok (.iconst 0, 1) := by decide +kernel
theorem dX9_isWay_25 : decode cX9_isWay 25 = .ok (.iaload, 1) := by decide +kernel
theorem dX9_isWay_26 : decode cX9_isWay 26 = .ok (.if_icmp .ge 86, 3) := by decide +kernel
theorem dX9_isWay_29 : decode cX9_isWay 29 = .ok (.aload_n 0, 1) := by decide +kernel
theorem dX9_isWay_30 : decode cX9_isWay 30 = .ok (.getfield 13, 3) := by decide +kernel
theorem dX9_isWay_33 : decode cX9_isWay 33 = .ok (.bipush 6, 2) := by decide +kernel
theorem dX9_isWay_35 : decode cX9_isWay 35 = .ok (.iload 6, 2) := by decide +kernel
theorem dX9_isWay_37 : decode cX9_isWay 37 = .ok (.iadd, 1) := by decide +kernel
theorem dX9_isWay_38 : decode cX9_isWay 38 = .ok (.iaload, 1) := by decide +kernel
theorem dX9_isWay_39 : decode cX9_isWay 39 = .ok (.istore 7, 2) := by decide +kernel
theorem dX9_isWay_41 : decode cX9_isWay 41 = .ok (.aload_n 0, 1) := by decide +kernel
theorem dX9_isWay_42 : decode cX9_isWay 42 = .ok (.getfield 13, 3) := by decide +kernel
theorem dX9_isWay_45 : decode cX9_isWay 45 = .ok (.bipush 13, 2) := by decide +kernel
theorem dX9_isWay_47 : decode cX9_isWay 47 = .ok (.iload 6, 2) := by decide +kernel
theorem dX9_isWay_49 : decode cX9_isWay 49 = .ok (.iadd, 1) := by decide +kernel
theorem dX9_isWay_50 : decode cX9_isWay 50 = .ok (.iaload, 1) := by decide +kernel
theorem dX9_isWay_51 : decode cX9_isWay 51 = .ok (.istore 8, 2) := by decide +kernel
theorem dX9_isWay_53 : decode cX9_isWay 53 = .ok (.iload 6, 2) := by decide +kernel
theorem dX9_isWay_55 : decode cX9_isWay 55 = .ok (.iload_n 3, 1) := by decide +kernel
theorem dX9_isWay_56 : decode cX9_isWay 56 = .ok (.if_icmp .eq 24, 3) := by decide +kernel
theorem dX9_isWay_59 : decode cX9_isWay 59 = .ok (.iload 4, 2) := by decide +kernel
theorem dX9_isWay_61 : decode cX9_isWay 61 = .ok (.iload 7, 2) := by decide +kernel
theorem dX9_isWay_63 : decode cX9_isWay 63 = .ok (.ishr, 1) := by decide +kernel
theorem dX9_isWay_64 : decode cX9_isWay 64 = .ok (.iload 4, 2) := by decide +kernel
theorem dX9_isWay_66 : decode cX9_isWay 66 = .ok (.iload 8, 2) := by decide +kernel
theorem dX9_isWay_68 : decode cX9_isWay 68 = .ok (.ishr, 1) := by decide +kernel
theorem dX9_isWay_69 : decode cX9_isWay 69 = .ok (.ior, 1) := by decide +kernel
theorem dX9_isWay_70 : decode cX9_isWay 70 = .ok (.iconst 1, 1) := by decide +kernel
theorem dX9_isWay_71 : decode cX9_isWay 71 = .ok (.iand, 1) := by decide +kernel
theorem dX9_isWay_72 : decode cX9_isWay 72 = .ok (.iconst 1, 1) := by decide +kernel
theorem dX9_isWay_73 : decode cX9_isWay 73 = .ok (.if_icmp .ne 7, 3) := by decide +kernel
theorem dX9_isWay_76 : decode cX9_isWay 76 = .ok (.iconst 1, 1) := by decide +kernel
theorem dX9_isWay_77 : decode cX9_isWay 77 = .ok (.goto 4, 3) := by decide +kernel
theorem dX9_isWay_80 : decode cX9_isWay 80 = .ok (.iconst 0, 1) := by decide +kernel
theorem dX9_isWay_81 : decode cX9_isWay 81 = .ok (.istore 9, 2) := by decide +kernel
theorem dX9_isWay_83 : decode cX9_isWay 83 = .ok (.iload 4, 2) := by decide +kernel
theorem dX9_isWay_85 : decode cX9_isWay 85 = .ok (.iload 9, 2) := by decide +kernel
theorem dX9_isWay_87 : decode cX9_isWay 87 = .ok (.ifCond .eq 15, 3) := by decide +kernel
theorem dX9_isWay_90 : decode cX9_isWay 90 = .ok (.iconst 1, 1) := by decide +kernel
theorem dX9_isWay_91 : decode cX9_isWay 91 = .ok (.iload 7, 2) := by decide +kernel
theorem dX9_isWay_93 : decode cX9_isWay 93 = .ok (.ishl, 1) := by decide +kernel
theorem dX9_isWay_94 : decode cX9_isWay 94 = .ok (.iconst 1, 1) := by decide +kernel
theorem dX9_isWay_95 : decode cX9_isWay 95 = .ok (.iload 8, 2) := by decide +kernel
theorem dX9_isWay_97 : decode cX9_isWay 97 = .ok (.ishl, 1) := by decide +kernel
theorem dX9_isWay_98 : decode cX9_isWay 98 = .ok (.ior, 1) := by decide +kernel
theorem dX9_isWay_99 : decode cX9_isWay 99 = .ok (.goto 4, 3) := by decide +kernel
theorem dX9_isWay_102 : decode cX9_isWay 102 = .ok (.iconst 0, 1) := by decide +kernel
theorem dX9_isWay_103 : decode cX9_isWay 103 = .ok (.ior, 1) := by decide +kernel
theorem dX9_isWay_104 : decode cX9_isWay 104 = .ok (.istore 4, 2) := by decide +kernel
theorem dX9_isWay_106 : decode cX9_isWay 106 = .ok (.iinc 6 1, 3) := by decide +kernel
theorem dX9_isWay_109 : decode cX9_isWay 109 = .ok (.goto (-91), 3) := by decide +kernel
theorem dX9_isWay_112 : decode cX9_isWay 112 = .ok (.iinc 5 1, 3) := by decide +kernel
theorem dX9_isWay_115 : decode cX9_isWay 115 = .ok (.goto (-107), 3) := by decide +kernel
theorem dX9_isWay_118 : decode cX9_isWay 118 = .ok (.iload 4, 2) := by decide +kernel
theorem dX9_isWay_120 : decode cX9_isWay 120 = .ok (.iload_n 2, 1) := by decide +kernel
theorem dX9_isWay_121 : decode cX9_isWay 121 = .ok (.ishr, 1) := by decide +kernel
theorem dX9_isWay_122 : decode cX9_isWay 122 = .ok (.iconst 1, 1) := by decide +kernel
theorem dX9_isWay_123 : decode cX9_isWay 123 = .ok (.iand, 1) := by decide +kernel
theorem dX9_isWay_124 : decode cX9_isWay 124 = .ok (.iconst 1, 1) := by decide +kernel
theorem dX9_isWay_125 : decode cX9_isWay 125 = .ok (.if_icmp .ne 7, 3) := by decide +kernel
theorem dX9_isWay_128 : decode cX9_isWay 128 = .ok (.iconst 1, 1) := by decide +kernel
theorem dX9_isWay_129 : decode cX9_isWay 129 = .ok (.goto 4, 3) := by decide +kernel
theorem dX9_isWay_132 : decode cX9_isWay 132 = .ok (.iconst 0, 1) := by decide +kernel
theorem dX9_isWay_133 : decode cX9_isWay 133 = .ok (.ireturn, 1) := by decide +kernel
theorem dX9_bars_0 : decode cX9_bars 0 = .ok (.iload_n 1, 1) := by decide +kernel
theorem dX9_bars_1 : decode cX9_bars 1 = .ok (.invokestatic 144, 3) := by decide +kernel
theorem dX9_bars_4 : decode cX9_bars 4 = .ok (.ifCond .eq 10, 3) := by decide +kernel
theorem dX9_bars_7 : decode cX9_bars 7 = .ok (.iload_n 2, 1) := by decide +kernel
theorem dX9_bars_8 : decode cX9_bars 8 = .ok (.invokestatic 144, 3) := by decide +kernel
theorem dX9_bars_11 : decode cX9_bars 11 = .ok (.ifCond .ne 5, 3) := by decide +kernel
theorem dX9_bars_14 : decode cX9_bars 14 = .ok (.iconst (-1), 1) := by decide +kernel
theorem dX9_bars_15 : decode cX9_bars 15 = .ok (.ireturn, 1) := by decide +kernel
theorem dX9_bars_16 : decode cX9_bars 16 = .ok (.iconst 0, 1) := by decide +kernel
theorem dX9_bars_17 : decode cX9_bars 17 = .ok (.istore_n 3, 1) := by decide +kernel
theorem dX9_bars_18 : decode cX9_bars 18 = .ok (.iconst 0, 1) := by decide +kernel
theorem dX9_bars_19 : decode cX9_bars 19 = .ok (.istore 4, 2) := by decide +kernel
theorem dX9_bars_21 : decode cX9_bars 21 = .ok (.iload 4, 2) := by decide +kernel
theorem dX9_bars_23 : decode cX9_bars 23 = .ok (.aload_n 0, 1) := by decide +kernel
theorem dX9_bars_24 : decode cX9_bars 24 = .ok (.getfield 13, 3) := by decide +kernel
theorem dX9_bars_27 : decode cX9_bars 27 = .ok (.iconst 0, 1) := by decide +kernel
theorem dX9_bars_28 : decode cX9_bars 28 = .ok (.iaload, 1) := by decide +kernel
theorem dX9_bars_29 : decode cX9_bars 29 = .ok (.if_icmp .ge 41, 3) := by decide +kernel
theorem dX9_bars_32 : decode cX9_bars 32 = .ok (.iload_n 3, 1) := by decide +kernel
theorem dX9_bars_33 : decode cX9_bars 33 = .ok (.aload_n 0, 1) := by decide +kernel
theorem dX9_bars_34 : decode cX9_bars 34 = .ok (.iload_n 1, 1) := by decide +kernel
theorem dX9_bars_35 : decode cX9_bars 35 = .ok (.iload_n 2, 1) := by decide +kernel
theorem dX9_bars_36 : decode cX9_bars 36 = .ok (.iconst (-1), 1) := by decide +kernel
theorem dX9_bars_37 : decode cX9_bars 37 = .ok (.invokevirtual 154, 3) := by decide +kernel
theorem dX9_bars_40 : decode cX9_bars 40 = .ok (.ifCond .eq 21, 3) := by decide +kernel
theorem dX9_bars_43 : decode cX9_bars 43 = .ok (.aload_n 0, 1) := by decide +kernel
theorem dX9_bars_44 : decode cX9_bars 44 = .ok (.iload_n 1, 1) := by decide +kernel
theorem dX9_bars_45 : decode cX9_bars 45 = .ok (.iload_n 2, 1) := by decide +kernel
theorem dX9_bars_46 : decode cX9_bars 46 = .ok (.iload 4, 2) := by decide +kernel
theorem dX9_bars_48 : decode cX9_bars 48 = .ok (.invokevirtual 154, 3) := by decide +kernel
theorem dX9_bars_51 : decode cX9_bars 51 = .ok (.ifCond .ne 10, 3) := by decide +kernel
theorem dX9_bars_54 : decode cX9_bars 54 = .ok (.iconst 1, 1) := by decide +kernel
theorem dX9_bars_55 : decode cX9_bars 55 = .ok (.iload 4, 2) := by decide +kernel
theorem dX9_bars_57 : decode cX9_bars 57 = .ok (.ishl, 1) := by decide +kernel
theorem dX9_bars_58 : decode cX9_bars 58 = .ok (.goto 4, 3) := by decide +kernel
theorem dX9_bars_61 : decode cX9_bars 61 = .ok (.iconst 0, 1) := by decide +kernel
theorem dX9_bars_62 : decode cX9_bars 62 = .ok (.ior, 1) := by decide +kernel
theorem dX9_bars_63 : decode cX9_bars 63 = .ok (.istore_n 3, 1) := by decide +kernel
theorem dX9_bars_64 : decode cX9_bars 64 = .ok (.iinc 4 1, 3) := by decide +kernel
theorem dX9_bars_67 : decode cX9_bars 67 = .ok (.goto (-46), 3) := by decide +kernel
theorem dX9_bars_70 : decode cX9_bars 70 = .ok (.iload_n 3, 1) := by decide +kernel
theorem dX9_bars_71 : decode cX9_bars 71 = .ok (.ireturn, 1) := by decide +kernel
theorem dX9_better_0 : decode cX9_better 0 = .ok (.iload_n 0, 1) := by decide +kernel
theorem dX9_better_1 : decode cX9_better 1 = .ok (.ifCond .lt 12, 3) := by decide +kernel
theorem dX9_better_4 : decode cX9_better 4 = .ok (.iload_n 1, 1) := by decide +kernel
theorem dX9_better_5 : decode cX9_better 5 = .ok (.ifCond .lt 12, 3) := by decide +kernel
theorem dX9_better_8 : decode cX9_better 8 = .ok (.iload_n 1, 1) := by decide +kernel
theorem dX9_better_9 : decode cX9_better 9 = .ok (.iload_n 0, 1) := by decide +kernel
theorem dX9_better_10 : decode cX9_better 10 = .ok (.if_icmp .ge 7, 3) := by decide +kernel
theorem dX9_better_13 : decode cX9_better 13 = .ok (.iload_n 1, 1) := by decide +kernel
theorem dX9_better_14 : decode cX9_better 14 = .ok (.goto 4, 3) := by decide +kernel
theorem dX9_better_17 : decode cX9_better 17 = .ok (.iload_n 0, 1) := by decide +kernel
theorem dX9_better_18 : decode cX9_better 18 = .ok (.ireturn, 1) := by decide +kernel
theorem dX9_paid_0 : decode cX9_paid 0 = .ok (.aload_n 0, 1) := by decide +kernel
theorem dX9_paid_1 : decode cX9_paid 1 = .ok (.iload_n 1, 1) := by decide +kernel
theorem dX9_paid_2 : decode cX9_paid 2 = .ok (.invokevirtual 104, 3) := by decide +kernel
theorem dX9_paid_5 : decode cX9_paid 5 = .ok (.ifCond .eq 12, 3) := by decide +kernel
theorem dX9_paid_8 : decode cX9_paid 8 = .ok (.iload_n 2, 1) := by decide +kernel
theorem dX9_paid_9 : decode cX9_paid 9 = .ok (.iconst 0, 1) := by decide +kernel
theorem dX9_paid_10 : decode cX9_paid 10 = .ok (.iconst 1, 1) := by decide +kernel
theorem dX9_paid_11 : decode cX9_paid 11 = .ok (.invokestatic 54, 3) := by decide +kernel
theorem dX9_paid_14 : decode cX9_paid 14 = .ok (.ifCond .ne 5, 3) := by decide +kernel
theorem dX9_paid_17 : decode cX9_paid 17 = .ok (.iconst (-1), 1) := by decide +kernel
theorem dX9_paid_18 : decode cX9_paid 18 = .ok (.ireturn, 1) := by decide +kernel
theorem dX9_paid_19 : decode cX9_paid 19 = .ok (.iconst 1, 1) := by decide +kernel
theorem dX9_paid_20 : decode cX9_paid 20 = .ok (.istore_n 3, 1) := by decide +kernel
theorem dX9_paid_21 : decode cX9_paid 21 = .ok (.iload_n 3, 1) := by decide +kernel
theorem dX9_paid_22 : decode cX9_paid 22 = .ok (.aload_n 0, 1) := by decide +kernel
theorem dX9_paid_23 : decode cX9_paid 23 = .ok (.getfield 19, 3) := by decide +kernel
theorem dX9_paid_26 : decode cX9_paid 26 = .ok (.iload_n 1, 1) := by decide +kernel
theorem dX9_paid_27 : decode cX9_paid 27 = .ok (.iaload, 1) := by decide +kernel
theorem dX9_paid_28 : decode cX9_paid 28 = .ok (.if_icmp .gt 176, 3) := by decide +kernel
theorem dX9_paid_31 : decode cX9_paid 31 = .ok (.iconst (-1), 1) := by decide +kernel
theorem dX9_paid_32 : decode cX9_paid 32 = .ok (.istore 4, 2) := by decide +kernel
theorem dX9_paid_34 : decode cX9_paid 34 = .ok (.iconst 0, 1) := by decide +kernel
theorem dX9_paid_35 : decode cX9_paid 35 = .ok (.istore 5, 2) := by decide +kernel
theorem dX9_paid_37 : decode cX9_paid 37 = .ok (.iload 5, 2) := by decide +kernel
theorem dX9_paid_39 : decode cX9_paid 39 = .ok (.aload_n 0, 1) := by decide +kernel
theorem dX9_paid_40 : decode cX9_paid 40 = .ok (.getfield 13, 3) := by decide +kernel
theorem dX9_paid_43 : decode cX9_paid 43 = .ok (.iconst 1, 1) := by decide +kernel
theorem dX9_paid_44 : decode cX9_paid 44 = .ok (.iaload, 1) := by decide +kernel
theorem dX9_paid_45 : decode cX9_paid 45 = .ok (.if_icmp .ge 145, 3) := by decide +kernel
theorem dX9_paid_48 : decode cX9_paid 48 = .ok (.iload_n 3, 1) := by decide +kernel
theorem dX9_paid_49 : decode cX9_paid 49 = .ok (.aload_n 0, 1) := by decide +kernel
theorem dX9_paid_50 : decode cX9_paid 50 = .ok (.iload 5, 2) := by decide +kernel
theorem dX9_paid_52 : decode cX9_paid 52 = .ok (.invokevirtual 117, 3) := by decide +kernel
theorem dX9_paid_55 : decode cX9_paid 55 = .ok (.isub, 1) := by decide +kernel
theorem dX9_paid_56 : decode cX9_paid 56 = .ok (.istore 6, 2) := by decide +kernel
theorem dX9_paid_58 : decode cX9_paid 58 = .ok (.iload 4, 2) := by decide +kernel
theorem dX9_paid_60 : decode cX9_paid 60 = .ok (.aload_n 0, 1) := by decide +kernel
theorem dX9_paid_61 : decode cX9_paid 61 = .ok (.getfield 38, 3) := by decide +kernel
theorem dX9_paid_64 : decode cX9_paid 64 = .ok (.iload 6, 2) := by decide +kernel
theorem dX9_paid_66 : decode cX9_paid 66 = .ok (.ifCond .ge 7, 3) := by decide +kernel
theorem dX9_paid_69 : decode cX9_paid 69 = .ok (.iconst 0, 1) := by decide +kernel
theorem dX9_paid_70 : decode cX9_paid 70 = .ok (.goto 5, 3) := by decide +kernel
theorem dX9_paid_73 : decode cX9_paid 73 = .ok (.iload 6, 2) := by decide +kernel
theorem dX9_paid_75 : decode cX9_paid 75 = .ok (.iaload, 1) := by decide +kernel
theorem dX9_paid_76 : decode cX9_paid 76 = .ok (.sipush 10000, 3) := by decide +kernel
theorem dX9_paid_79 : decode cX9_paid 79 = .ok (.aload_n 0, 1) := by decide +kernel
theorem dX9_paid_80 : decode cX9_paid 80 = .ok (.getfield 13, 3) := by decide +kernel
theorem dX9_paid_83 : decode cX9_paid 83 = .ok (.bipush 44, 2) := by decide +kernel
theorem dX9_paid_85 : decode cX9_paid 85 = .ok (.iload 5, 2) := by decide +kernel
theorem dX9_paid_87 : decode cX9_paid 87 = .ok (.iadd, 1) := by decide +kernel
theorem dX9_paid_88 : decode cX9_paid 88 = .ok (.iaload, 1) := by decide +kernel
theorem dX9_paid_89 : decode cX9_paid 89 = .ok (.imul, 1) := by decide +kernel
theorem dX9_paid_90 : decode cX9_paid 90 = .ok (.iadd, 1) := by decide +kernel
theorem dX9_paid_91 : decode cX9_paid 91 = .ok (.iconst 1, 1) := by decide +kernel
theorem dX9_paid_92 : decode cX9_paid 92 = .ok (.iadd, 1) := by decide +kernel
theorem dX9_paid_93 : decode cX9_paid 93 = .ok (.invokestatic 157, 3) := by decide +kernel
theorem dX9_paid_96 : decode cX9_paid 96 = .ok (.istore 4, 2) := by decide +kernel
theorem dX9_paid_98 : decode cX9_paid 98 = .ok (.iconst 0, 1) := by decide +kernel
theorem dX9_paid_99 : decode cX9_paid 99 = .ok (.istore 7, 2) := by decide +kernel
theorem dX9_paid_101 : decode cX9_paid 101 = .ok (.iload 7, 2) := by decide +kernel
theorem dX9_paid_103 : decode cX9_paid 103 = .ok (.iload 5, 2) := by decide +kernel
theorem dX9_paid_105 : decode cX9_paid 105 = .ok (.if_icmp .ge 79, 3) := by decide +kernel
theorem dX9_paid_108 : decode cX9_paid 108 = .ok (.aload_n 0, 1) := by decide +kernel
theorem dX9_paid_109 : decode cX9_paid 109 = .ok (.getfield 13, 3) := by decide +kernel
theorem dX9_paid_112 : decode cX9_paid 112 = .ok (.iconst 3, 1) := by decide +kernel
theorem dX9_paid_113 : decode cX9_paid 113 = .ok (.iaload, 1) := by decide +kernel
theorem dX9_paid_114 : decode cX9_paid 114 = .ok (.ifCond .le 70, 3) := by decide +kernel
theorem dX9_paid_117 : decode cX9_paid 117 = .ok (.iload_n 3, 1) := by decide +kernel
theorem dX9_paid_118 : decode cX9_paid 118 = .ok (.aload_n 0, 1) := by decide +kernel
theorem dX9_paid_119 : decode cX9_paid 119 = .ok (.getfield 13, 3) := by decide +kernel
theorem dX9_paid_122 : decode cX9_paid 122 = .ok (.iconst 3, 1) := by decide +kernel
theorem dX9_paid_123 : decode cX9_paid 123 = .ok (.iaload, 1) := by decide +kernel
theorem dX9_paid_124 : decode cX9_paid 124 = .ok (.isub, 1) := by decide +kernel
theorem dX9_paid_125 : decode cX9_paid 125 = .ok (.istore 8, 2) := by decide +kernel
theorem dX9_paid_127 : decode cX9_paid 127 = .ok (.iload 4, 2) := by decide +kernel
theorem dX9_paid_129 : decode cX9_paid 129 = .ok (.aload_n 0, 1) := by decide +kernel
theorem dX9_paid_130 : decode cX9_paid 130 = .ok (.getfield 38, 3) := by decide +kernel
theorem dX9_paid_133 : decode cX9_paid 133 = .ok (.iload 8, 2) := by decide +kernel
theorem dX9_paid_135 : decode cX9_paid 135 = .ok (.ifCond .ge 7, 3) := by decide +kernel
theorem dX9_paid_138 : decode cX9_paid 138 = .ok (.iconst 0, 1) := by decide +kernel
theorem dX9_paid_139 : decode cX9_paid 139 = .ok (.goto 5, 3) := by decide +kernel
theorem dX9_paid_142 : decode cX9_paid 142 = .ok (.iload 8, 2) := by decide +kernel
theorem dX9_paid_144 : decode cX9_paid 144 = .ok (.iaload, 1) := by decide +kernel
theorem dX9_paid_145 : decode cX9_paid 145 = .ok (.sipush 10000, 3) := by decide +kernel
theorem dX9_paid_148 : decode cX9_paid 148 = .ok (.aload_n 0, 1) := by decide +kernel
theorem dX9_paid_149 : decode cX9_paid 149 = .ok (.getfield 13, 3) := by decide +kernel
theorem dX9_paid_152 : decode cX9_paid 152 = .ok (.bipush 44, 2) := by decide +kernel
theorem dX9_paid_154 : decode cX9_paid 154 = .ok (.iload 5, 2) := by decide +kernel
theorem dX9_paid_156 : decode cX9_paid 156 = .ok (.iadd, 1) := by decide +kernel
theorem dX9_paid_157 : decode cX9_paid 157 = .ok (.iaload, 1) := by decide +kernel
theorem dX9_paid_158 : decode cX9_paid 158 = .ok (.aload_n 0, 1) := by decide +kernel
theorem dX9_paid_159 : decode cX9_paid 159 = .ok (.getfield 13, 3) := by decide +kernel
theorem dX9_paid_162 : decode cX9_paid 162 = .ok (.bipush 44, 2) := by decide +kernel
theorem dX9_paid_164 : decode cX9_paid 164 = .ok (.iload 7, 2) := by decide +kernel
theorem dX9_paid_166 : decode cX9_paid 166 = .ok (.iadd, 1) := by decide +kernel
theorem dX9_paid_167 : decode cX9_paid 167 = .ok (.iaload, 1) := by decide +kernel
theorem dX9_paid_168 : decode cX9_paid 168 = .ok (.iadd, 1) := by decide +kernel
theorem dX9_paid_169 : decode cX9_paid 169 = .ok (.imul, 1) := by decide +kernel
theorem dX9_paid_170 : decode cX9_paid 170 = .ok (.iadd, 1) := by decide +kernel
theorem dX9_paid_171 : decode cX9_paid 171 = .ok (.iconst 1, 1) := by decide +kernel
theorem dX9_paid_172 : decode cX9_paid 172 = .ok (.iadd, 1) := by decide +kernel
theorem dX9_paid_173 : decode cX9_paid 173 = .ok (.invokestatic 157, 3) := by decide +kernel
theorem dX9_paid_176 : decode cX9_paid 176 = .ok (.istore 4, 2) := by decide +kernel
theorem dX9_paid_178 : decode cX9_paid 178 = .ok (.iinc 7 1, 3) := by decide +kernel
theorem dX9_paid_181 : decode cX9_paid 181 = .ok (.goto (-80), 3) := by decide +kernel
theorem dX9_paid_184 : decode cX9_paid 184 = .ok (.iinc 5 1, 3) := by decide +kernel
theorem dX9_paid_187 : decode cX9_paid 187 = .ok (.goto (-150), 3) := by decide +kernel
theorem dX9_paid_190 : decode cX9_paid 190 = .ok (.aload_n 0, 1) := by decide +kernel
theorem dX9_paid_191 : decode cX9_paid 191 = .ok (.getfield 38, 3) := by decide +kernel
theorem dX9_paid_194 : decode cX9_paid 194 = .ok (.iload_n 3, 1) := by decide +kernel
theorem dX9_paid_195 : decode cX9_paid 195 = .ok (.iload 4, 2) := by decide +kernel
theorem dX9_paid_197 : decode cX9_paid 197 = .ok (.iastore, 1) := by decide +kernel
theorem dX9_paid_198 : decode cX9_paid 198 = .ok (.iinc 3 1, 3) := by decide +kernel
theorem dX9_paid_201 : decode cX9_paid 201 = .ok (.goto (-180), 3) := by decide +kernel
theorem dX9_paid_204 : decode cX9_paid 204 = .ok (.aload_n 0, 1) := by decide +kernel
theorem dX9_paid_205 : decode cX9_paid 205 = .ok (.getfield 19, 3) := by decide +kernel
theorem dX9_paid_208 : decode cX9_paid 208 = .ok (.iload_n 1, 1) := by decide +kernel
theorem dX9_paid_209 : decode cX9_paid 209 = .ok (.iaload, 1) := by decide +kernel
theorem dX9_paid_210 : decode cX9_paid 210 = .ok (.ifCond .le 15, 3) := by decide +kernel
theorem dX9_paid_213 : decode cX9_paid 213 = .ok (.aload_n 0, 1) := by decide +kernel
theorem dX9_paid_214 : decode cX9_paid 214 = .ok (.getfield 13, 3) := by decide +kernel
theorem dX9_paid_217 : decode cX9_paid 217 = .ok (.iconst 1, 1) := by decide +kernel
theorem dX9_paid_218 : decode cX9_paid 218 = .ok (.iaload, 1) := by decide +kernel
theorem dX9_paid_219 : decode cX9_paid 219 = .ok (.ifCond .ne 6, 3) := by decide +kernel
theorem dX9_paid_222 : decode cX9_paid 222 = .ok (.bipush (-9), 2) := by decide +kernel
theorem dX9_paid_224 : decode cX9_paid 224 = .ok (.ireturn, 1) := by decide +kernel
theorem dX9_paid_225 : decode cX9_paid 225 = .ok (.iload_n 2, 1) := by decide +kernel
theorem dX9_paid_226 : decode cX9_paid 226 = .ok (.ifCond .ne 21, 3) := by decide +kernel
theorem dX9_paid_229 : decode cX9_paid 229 = .ok (.aload_n 0, 1) := by decide +kernel
theorem dX9_paid_230 : decode cX9_paid 230 = .ok (.getfield 38, 3) := by decide +kernel
theorem dX9_paid_233 : decode cX9_paid 233 = .ok (.aload_n 0, 1) := by decide +kernel
theorem dX9_paid_234 : decode cX9_paid 234 = .ok (.getfield 19, 3) := by decide +kernel
theorem dX9_paid_237 : decode cX9_paid 237 = .ok (.iload_n 1, 1) := by decide +kernel
theorem dX9_paid_238 : decode cX9_paid 238 = .ok (.iaload, 1) := by decide +kernel
theorem dX9_paid_239 : decode cX9_paid 239 = .ok (.iaload, 1) := by decide +kernel
theorem dX9_paid_240 : decode cX9_paid 240 = .ok (.sipush 10000, 3) := by decide +kernel
theorem dX9_paid_243 : decode cX9_paid 243 = .ok (.idiv, 1) := by decide +kernel
theorem dX9_paid_244 : decode cX9_paid 244 = .ok (.goto 18, 3) := by decide +kernel
theorem dX9_paid_247 : decode cX9_paid 247 = .ok (.aload_n 0, 1) := by decide +kernel
theorem dX9_paid_248 : decode cX9_paid 248 = .ok (.getfield 38, 3) := by decide +kernel
theorem dX9_paid_251 : decode cX9_paid 251 = .ok (.aload_n 0, 1) := by decide +kernel
theorem dX9_paid_252 : decode cX9_paid 252 = .ok (.getfield 19, 3) := by decide +kernel
theorem dX9_paid_255 : decode cX9_paid 255 = .ok (.iload_n 1, 1) := by decide +kernel
theorem dX9_paid_256 : decode cX9_paid 256 = .ok (.iaload, 1) := by decide +kernel
theorem dX9_paid_257 : decode cX9_paid 257 = .ok (.iaload, 1) := by decide +kernel
theorem dX9_paid_258 : decode cX9_paid 258 = .ok (.sipush 10000, 3) := by decide +kernel
theorem dX9_paid_261 : decode cX9_paid 261 = .ok (.irem, 1) := by decide +kernel
theorem dX9_paid_262 : decode cX9_paid 262 = .ok (.ireturn, 1) := by decide +kernel
theorem dX9_dueBy_0 : decode cX9_dueBy 0 = .ok (.iload_n 2, 1) := by decide +kernel
theorem dX9_dueBy_1 : decode cX9_dueBy 1 = .ok (.bipush 11, 2) := by decide +kernel
theorem dX9_dueBy_3 : decode cX9_dueBy 3 = .ok (.if_icmp .le 7, 3) := by decide +kernel
theorem dX9_dueBy_6 : decode cX9_dueBy 6 = .ok (.iconst 0, 1) := by decide +kernel
theorem dX9_dueBy_7 : decode cX9_dueBy 7 = .ok (.goto 9, 3) := by decide +kernel
theorem dX9_dueBy_10 : decode cX9_dueBy 10 = .ok (.aload_n 0, 1) := by decide +kernel
theorem dX9_dueBy_11 : decode cX9_dueBy 11 = .ok (.getfield 19, 3) := by decide +kernel
theorem dX9_dueBy_14 : decode cX9_dueBy 14 = .ok (.iload_n 1, 1) := by decide +kernel
theorem dX9_dueBy_15 : decode cX9_dueBy 15 = .ok (.iaload, 1) := by decide +kernel
theorem dX9_dueBy_16 : decode cX9_dueBy 16 = .ok (.istore_n 3, 1) := by decide +kernel
theorem dX9_dueBy_17 : decode cX9_dueBy 17 = .ok (.aload_n 0, 1) := by decide +kernel
theorem dX9_dueBy_18 : decode cX9_dueBy 18 = .ok (.getfield 13, 3) := by decide +kernel
theorem dX9_dueBy_21 : decode cX9_dueBy 21 = .ok (.iconst 2, 1) := by decide +kernel
theorem dX9_dueBy_22 : decode cX9_dueBy 22 = .ok (.iaload, 1) := by decide +kernel
theorem dX9_dueBy_23 : decode cX9_dueBy 23 = .ok (.aload_n 0, 1) := by decide +kernel
theorem dX9_dueBy_24 : decode cX9_dueBy 24 = .ok (.getfield 19, 3) := by decide +kernel
theorem dX9_dueBy_27 : decode cX9_dueBy 27 = .ok (.bipush 7, 2) := by decide +kernel
theorem dX9_dueBy_29 : decode cX9_dueBy 29 = .ok (.iload_n 1, 1) := by decide +kernel
theorem dX9_dueBy_30 : decode cX9_dueBy 30 = .ok (.iadd, 1) := by decide +kernel
theorem dX9_dueBy_31 : decode cX9_dueBy 31 = .ok (.iaload, 1) := by decide +kernel
theorem dX9_dueBy_32 : decode cX9_dueBy 32 = .ok (.isub, 1) := by decide +kernel
theorem dX9_dueBy_33 : decode cX9_dueBy 33 = .ok (.istore 4, 2) := by decide +kernel
theorem dX9_dueBy_35 : decode cX9_dueBy 35 = .ok (.iconst 0, 1) := by decide +kernel
theorem dX9_dueBy_36 : decode cX9_dueBy 36 = .ok (.istore 5, 2) := by decide +kernel
theorem dX9_dueBy_38 : decode cX9_dueBy 38 = .ok (.iconst 3, 1) := by decide +kernel
theorem dX9_dueBy_39 : decode cX9_dueBy 39 = .ok (.iload 5, 2) := by decide +kernel
theorem dX9_dueBy_41 : decode cX9_dueBy 41 = .ok (.imul, 1) := by decide +kernel
theorem dX9_dueBy_42 : decode cX9_dueBy 42 = .ok (.iload_n 2, 1) := by decide +kernel
theorem dX9_dueBy_43 : decode cX9_dueBy 43 = .ok (.if_icmp .gt 58, 3) := by decide +kernel
theorem dX9_dueBy_46 : decode cX9_dueBy 46 = .ok (.iload_n 2, 1) := by decide +kernel
theorem dX9_dueBy_47 : decode cX9_dueBy 47 = .ok (.iconst 3, 1) := by decide +kernel
theorem dX9_dueBy_48 : decode cX9_dueBy 48 = .ok (.iload 5, 2) := by decide +kernel
theorem dX9_dueBy_50 : decode cX9_dueBy 50 = .ok (.imul, 1) := by decide +kernel
theorem dX9_dueBy_51 : decode cX9_dueBy 51 = .ok (.isub, 1) := by decide +kernel
theorem dX9_dueBy_52 : decode cX9_dueBy 52 = .ok (.istore 6, 2) := by decide +kernel
theorem dX9_dueBy_54 : decode cX9_dueBy 54 = .ok (.aload_n 0, 1) := by decide +kernel
theorem dX9_dueBy_55 : decode cX9_dueBy 55 = .ok (.getfield 19, 3) := by decide +kernel
theorem dX9_dueBy_58 : decode cX9_dueBy 58 = .ok (.iload_n 1, 1) := by decide +kernel
theorem dX9_dueBy_59 : decode cX9_dueBy 59 = .ok (.iaload, 1) := by decide +kernel
theorem dX9_dueBy_60 : decode cX9_dueBy 60 = .ok (.iconst 4, 1) := by decide +kernel
theorem dX9_dueBy_61 : decode cX9_dueBy 61 = .ok (.iload 5, 2) := by decide +kernel
theorem dX9_dueBy_63 : decode cX9_dueBy 63 = .ok (.imul, 1) := by decide +kernel
theorem dX9_dueBy_64 : decode cX9_dueBy 64 = .ok (.isub, 1) := by decide +kernel
theorem dX9_dueBy_65 : decode cX9_dueBy 65 = .ok (.iload 6, 2) := by decide +kernel
theorem dX9_dueBy_67 : decode cX9_dueBy 67 = .ok (.iload 4, 2) := by decide +kernel
theorem dX9_dueBy_69 : decode cX9_dueBy 69 = .ok (.if_icmp .ge 8, 3) := by decide +kernel
theorem dX9_dueBy_72 : decode cX9_dueBy 72 = .ok (.iload 6, 2) := by decide +kernel
theorem dX9_dueBy_74 : decode cX9_dueBy 74 = .ok (.goto 5, 3) := by decide +kernel
theorem dX9_dueBy_77 : decode cX9_dueBy 77 = .ok (.iload 4, 2) := by decide +kernel
theorem dX9_dueBy_79 : decode cX9_dueBy 79 = .ok (.isub, 1) := by decide +kernel
theorem dX9_dueBy_80 : decode cX9_dueBy 80 = .ok (.istore 7, 2) := by decide +kernel
theorem dX9_dueBy_82 : decode cX9_dueBy 82 = .ok (.iload 7, 2) := by decide +kernel
theorem dX9_dueBy_84 : decode cX9_dueBy 84 = .ok (.iload_n 3, 1) := by decide +kernel
theorem dX9_dueBy_85 : decode cX9_dueBy 85 = .ok (.if_icmp .ge 8, 3) := by decide +kernel
theorem dX9_dueBy_88 : decode cX9_dueBy 88 = .ok (.iload 7, 2) := by decide +kernel
theorem dX9_dueBy_90 : decode cX9_dueBy 90 = .ok (.goto 4, 3) := by decide +kernel
theorem dX9_dueBy_93 : decode cX9_dueBy 93 = .ok (.iload_n 3, 1) := by decide +kernel
theorem dX9_dueBy_94 : decode cX9_dueBy 94 = .ok (.istore_n 3, 1) := by decide +kernel
theorem dX9_dueBy_95 : decode cX9_dueBy 95 = .ok (.iinc 5 1, 3) := by decide +kernel
theorem dX9_dueBy_98 : decode cX9_dueBy 98 = .ok (.goto (-60), 3) := by decide +kernel
theorem dX9_dueBy_101 : decode cX9_dueBy 101 = .ok (.iload_n 3, 1) := by decide +kernel
theorem dX9_dueBy_102 : decode cX9_dueBy 102 = .ok (.ifCond .ge 7, 3) := by decide +kernel
theorem dX9_dueBy_105 : decode cX9_dueBy 105 = .ok (.iconst 0, 1) := by decide +kernel
theorem dX9_dueBy_106 : decode cX9_dueBy 106 = .ok (.goto 4, 3) := by decide +kernel
theorem dX9_dueBy_109 : decode cX9_dueBy 109 = .ok (.iload_n 3, 1) := by decide +kernel
theorem dX9_dueBy_110 : decode cX9_dueBy 110 = .ok (.ireturn, 1) := by decide +kernel
theorem dX9_coins_0 : decode cX9_coins 0 = .ok (.iload_n 1, 1) := by decide +kernel
theorem dX9_coins_1 : decode cX9_coins 1 = .ok (.iconst 0, 1) := by decide +kernel
theorem dX9_coins_2 : decode cX9_coins 2 = .ok (.bipush 99, 2) := by decide +kernel
theorem dX9_coins_4 : decode cX9_coins 4 = .ok (.invokestatic 54, 3) := by decide +kernel
theorem dX9_coins_7 : decode cX9_coins 7 = .ok (.ifCond .eq 20, 3) := by decide +kernel
theorem dX9_coins_10 : decode cX9_coins 10 = .ok (.iload_n 2, 1) := by decide +kernel
theorem dX9_coins_11 : decode cX9_coins 11 = .ok (.bipush (-2), 2) := by decide +kernel
theorem dX9_coins_13 : decode cX9_coins 13 = .ok (.aload_n 0, 1) := by decide +kernel
theorem dX9_coins_14 : decode cX9_coins 14 = .ok (.getfield 13, 3) := by decide +kernel
theorem dX9_coins_17 : decode cX9_coins 17 = .ok (.iconst 0, 1) := by decide +kernel
theorem dX9_coins_18 : decode cX9_coins 18 = .ok (.iaload, 1) := by decide +kernel
theorem dX9_coins_19 : decode cX9_coins 19 = .ok (.iconst 1, 1) := by decide +kernel
theorem dX9_coins_20 : decode cX9_coins 20 = .ok (.isub, 1) := by decide +kernel
theorem dX9_coins_21 : decode cX9_coins 21 = .ok (.invokestatic 54, 3) := by decide +kernel
theorem dX9_coins_24 : decode cX9_coins 24 = .ok (.ifCond .ne 5, 3) := by decide +kernel
theorem dX9_coins_27 : decode cX9_coins 27 = .ok (.iconst (-1), 1) := by decide +kernel
theorem dX9_coins_28 : decode cX9_coins 28 = .ok (.ireturn, 1) := by decide +kernel
theorem dX9_coins_29 : decode cX9_coins 29 = .ok (.iconst 0, 1) := by decide +kernel
theorem dX9_coins_30 : decode cX9_coins 30 = .ok (.istore_n 3, 1) := by decide +kernel
theorem dX9_coins_31 : decode cX9_coins 31 = .ok (.iload_n 3, 1) := by decide +kernel
theorem dX9_coins_32 : decode cX9_coins 32 = .ok (.iload_n 1, 1) := by decide +kernel
theorem dX9_coins_33 : decode cX9_coins 33 = .ok (.if_icmp .gt 43, 3) := by decide +kernel
theorem dX9_coins_36 : decode cX9_coins 36 = .ok (.aload_n 0, 1) := by decide +kernel
theorem dX9_coins_37 : decode cX9_coins 37 = .ok (.getfield 41, 3) := by decide +kernel
theorem dX9_coins_40 : decode cX9_coins 40 = .ok (.bipush 100, 2) := by decide +kernel
theorem dX9_coins_42 : decode cX9_coins 42 = .ok (.aload_n 0, 1) := by decide +kernel
theorem dX9_coins_43 : decode cX9_coins 43 = .ok (.getfield 13, 3) := by decide +kernel
theorem dX9_coins_46 : decode cX9_coins 46 = .ok (.iconst 0, 1) := by decide +kernel
theorem dX9_coins_47 : decode cX9_coins 47 = .ok (.iaload, 1) := by decide +kernel
theorem dX9_coins_48 : decode cX9_coins 48 = .ok (.imul, 1) := by decide +kernel
theorem dX9_coins_49 : decode cX9_coins 49 = .ok (.iload_n 3, 1) := by decide +kernel
theorem dX9_coins_50 : decode cX9_coins 50 = .ok (.iadd, 1) := by decide +kernel
theorem dX9_coins_51 : decode cX9_coins 51 = .ok (.iconst 0, 1) := by decide +kernel
theorem dX9_coins_52 : decode cX9_coins 52 = .ok (.iastore, 1) := by decide +kernel
theorem dX9_coins_53 : decode cX9_coins 53 = .ok (.aload_n 0, 1) := by decide +kernel
theorem dX9_coins_54 : decode cX9_coins 54 = .ok (.getfield 44, 3) := by decide +kernel
theorem dX9_coins_57 : decode cX9_coins 57 = .ok (.bipush 100, 2) := by decide +kernel
theorem dX9_coins_59 : decode cX9_coins 59 = .ok (.aload_n 0, 1) := by decide +kernel
theorem dX9_coins_60 : decode cX9_coins 60 = .ok (.getfield 13, 3) := by decide +kernel
theorem dX9_coins_63 : decode cX9_coins 63 = .ok (.iconst 0, 1) := by decide +kernel
theorem dX9_coins_64 : decode cX9_coins 64 = .ok (.iaload, 1) := by decide +kernel
theorem dX9_coins_65 : decode cX9_coins 65 = .ok (.imul, 1) := by decide +kernel
theorem dX9_coins_66 : decode cX9_coins 66 = .ok (.iload_n 3, 1) := by decide +kernel
theorem dX9_coins_67 : decode cX9_coins 67 = .ok (.iadd, 1) := by decide +kernel
theorem dX9_coins_68 : decode cX9_coins 68 = .ok (.iconst 0, 1) := by decide +kernel
theorem dX9_coins_69 : decode cX9_coins 69 = .ok (.iastore, 1) := by decide +kernel
theorem dX9_coins_70 : decode cX9_coins 70 = .ok (.iinc 3 1, 3) := by decide +kernel
theorem dX9_coins_73 : decode cX9_coins 73 = .ok (.goto (-42), 3) := by decide +kernel
theorem dX9_coins_76 : decode cX9_coins 76 = .ok (.aload_n 0, 1) := by decide +kernel
theorem dX9_coins_77 : decode cX9_coins 77 = .ok (.getfield 13, 3) := by decide +kernel
theorem dX9_coins_80 : decode cX9_coins 80 = .ok (.iconst 0, 1) := by decide +kernel
theorem dX9_coins_81 : decode cX9_coins 81 = .ok (.iaload, 1) := by decide +kernel
theorem dX9_coins_82 : decode cX9_coins 82 = .ok (.iconst 1, 1) := by decide +kernel
theorem dX9_coins_83 : decode cX9_coins 83 = .ok (.isub, 1) := by decide +kernel
theorem dX9_coins_84 : decode cX9_coins 84 = .ok (.istore_n 3, 1) := by decide +kernel
theorem dX9_coins_85 : decode cX9_coins 85 = .ok (.iload_n 3, 1) := by decide +kernel
theorem dX9_coins_86 : decode cX9_coins 86 = .ok (.ifCond .lt 174, 3) := by decide +kernel
theorem dX9_coins_89 : decode cX9_coins 89 = .ok (.iconst 0, 1) := by decide +kernel
theorem dX9_coins_90 : decode cX9_coins 90 = .ok (.istore 4, 2) := by decide +kernel
theorem dX9_coins_92 : decode cX9_coins 92 = .ok (.iload 4, 2) := by decide +kernel
theorem dX9_coins_94 : decode cX9_coins 94 = .ok (.iload_n 1, 1) := by decide +kernel
theorem dX9_coins_95 : decode cX9_coins 95 = .ok (.if_icmp .gt 159, 3) := by decide +kernel
theorem dX9_coins_98 : decode cX9_coins 98 = .ok (.ldc 160, 2) := by decide +kernel
theorem dX9_coins_100 : decode cX9_coins 100 = .ok (.istore 5, 2) := by decide +kernel
theorem dX9_coins_102 : decode cX9_coins 102 = .ok (.iconst 0, 1) := by decide +kernel
theorem dX9_coins_103 : decode cX9_coins 103 = .ok (.istore 6, 2) := by decide +kernel
theorem dX9_coins_105 : decode cX9_coins 105 = .ok (.iconst 0, 1) := by decide +kernel
theorem dX9_coins_106 : decode cX9_coins 106 = .ok (.istore 7, 2) := by decide +kernel
theorem dX9_coins_108 : decode cX9_coins 108 = .ok (.iload 7, 2) := by decide +kernel
theorem dX9_coins_110 : decode cX9_coins 110 = .ok (.iload 4, 2) := by decide +kernel
theorem dX9_coins_112 : decode cX9_coins 112 = .ok (.if_icmp .gt 108, 3) := by decide +kernel
theorem dX9_coins_115 : decode cX9_coins 115 = .ok (.bipush 100, 2) := by decide +kernel
theorem dX9_coins_117 : decode cX9_coins 117 = .ok (.iload_n 3, 1) := by decide +kernel
theorem dX9_coins_118 : decode cX9_coins 118 = .ok (.iconst 1, 1) := by decide +kernel
theorem dX9_coins_119 : decode cX9_coins 119 = .ok (.iadd, 1) := by decide +kernel
theorem dX9_coins_120 : decode cX9_coins 120 = .ok (.imul, 1) := by decide +kernel
theorem dX9_coins_121 : decode cX9_coins 121 = .ok (.iload 4, 2) := by decide +kernel
theorem dX9_coins_123 : decode cX9_coins 123 = .ok (.iadd, 1) := by decide +kernel
theorem dX9_coins_124 : decode cX9_coins 124 = .ok (.iload 7, 2) := by decide +kernel
theorem dX9_coins_126 : decode cX9_coins 126 = .ok (.isub, 1) := by decide +kernel
theorem dX9_coins_127 : decode cX9_coins 127 = .ok (.istore 8, 2) := by decide +kernel
theorem dX9_coins_129 : decode cX9_coins 129 = .ok (.aload_n 0, 1) := by decide +kernel
theorem dX9_coins_130 : decode cX9_coins 130 = .ok (.iload_n 3, 1) := by decide +kernel
theorem dX9_coins_131 : decode cX9_coins 131 = .ok (.iload 7, 2) := by decide +kernel
theorem dX9_coins_133 : decode cX9_coins 133 = .ok (.invokevirtual 161, 3) := by decide +kernel
theorem dX9_coins_136 : decode cX9_coins 136 = .ok (.aload_n 0, 1) := by decide +kernel
theorem dX9_coins_137 : decode cX9_coins 137 = .ok (.getfield 41, 3) := by decide +kernel
theorem dX9_coins_140 : decode cX9_coins 140 = .ok (.iload 8, 2) := by decide +kernel
theorem dX9_coins_142 : decode cX9_coins 142 = .ok (.iaload, 1) := by decide +kernel
theorem dX9_coins_143 : decode cX9_coins 143 = .ok (.iadd, 1) := by decide +kernel
theorem dX9_coins_144 : decode cX9_coins 144 = .ok (.istore 9, 2) := by decide +kernel
theorem dX9_coins_146 : decode cX9_coins 146 = .ok (.iload 7, 2) := by decide +kernel
theorem dX9_coins_148 : decode cX9_coins 148 = .ok (.aload_n 0, 1) := by decide +kernel
theorem dX9_coins_149 : decode cX9_coins 149 = .ok (.getfield 44, 3) := by decide +kernel
theorem dX9_coins_152 : decode cX9_coins 152 = .ok (.iload 8, 2) := by decide +kernel
theorem dX9_coins_154 : decode cX9_coins 154 = .ok (.iaload, 1) := by decide +kernel
theorem dX9_coins_155 : decode cX9_coins 155 = .ok (.iadd, 1) := by decide +kernel
theorem dX9_coins_156 : decode cX9_coins 156 = .ok (.istore 10, 2) := by decide +kernel
theorem dX9_coins_158 : decode cX9_coins 158 = .ok (.iload 9, 2) := by decide +kernel
theorem dX9_coins_160 : decode cX9_coins 160 = .ok (.iload 5, 2) := by decide +kernel
theorem dX9_coins_162 : decode cX9_coins 162 = .ok (.if_icmp .lt 17, 3) := by decide +kernel
theorem dX9_coins_165 : decode cX9_coins 165 = .ok (.iload 9, 2) := by decide +kernel
theorem dX9_coins_167 : decode cX9_coins 167 = .ok (.iload 5, 2) := by decide +kernel
theorem dX9_coins_169 : decode cX9_coins 169 = .ok (.if_icmp .ne 14, 3) := by decide +kernel
theorem dX9_coins_172 : decode cX9_coins 172 = .ok (.iload 10, 2) := by decide +kernel
theorem dX9_coins_174 : decode cX9_coins 174 = .ok (.iload 6, 2) := by decide +kernel
theorem dX9_coins_176 : decode cX9_coins 176 = .ok (.if_icmp .ge 7, 3) := by decide +kernel
theorem dX9_coins_179 : decode cX9_coins 179 = .ok (.iconst 1, 1) := by decide +kernel
theorem dX9_coins_180 : decode cX9_coins 180 = .ok (.goto 4, 3) := by decide +kernel
theorem dX9_coins_183 : decode cX9_coins 183 = .ok (.iconst 0, 1) := by decide +kernel
theorem dX9_coins_184 : decode cX9_coins 184 = .ok (.istore 11, 2) := by decide +kernel
theorem dX9_coins_186 : decode cX9_coins 186 = .ok (.iload 11, 2) := by decide +kernel
theorem dX9_coins_188 : decode cX9_coins 188 = .ok (.ifCond .eq 8, 3) := by decide +kernel
theorem dX9_coins_191 : decode cX9_coins 191 = .ok (.iload 9, 2) := by decide +kernel
theorem dX9_coins_193 : decode cX9_coins 193 = .ok (.goto 5, 3) := by decide +kernel
theorem dX9_coins_196 : decode cX9_coins 196 = .ok (.iload 5, 2) := by decide +kernel
theorem dX9_coins_198 : decode cX9_coins 198 = .ok (.istore 5, 2) := by decide +kernel
theorem dX9_coins_200 : decode cX9_coins 200 = .ok (.iload 11, 2) := by decide +kernel
theorem dX9_coins_202 : decode cX9_coins 202 = .ok (.ifCond .eq 8, 3) := by decide +kernel
theorem dX9_coins_205 : decode cX9_coins 205 = .ok (.iload 10, 2) := by decide +kernel
theorem dX9_coins_207 : decode cX9_coins 207 = .ok (.goto 5, 3) := by decide +kernel
theorem dX9_coins_210 : decode cX9_coins 210 = .ok (.iload 6, 2) := by decide +kernel
theorem dX9_coins_212 : decode cX9_coins 212 = .ok (.istore 6, 2) := by decide +kernel
theorem dX9_coins_214 : decode cX9_coins 214 = .ok (.iinc 7 1, 3) := by decide +kernel
theorem dX9_coins_217 : decode cX9_coins 217 = .ok (.goto (-109), 3) := by decide +kernel
theorem dX9_coins_220 : decode cX9_coins 220 = .ok (.aload_n 0, 1) := by decide +kernel
theorem dX9_coins_221 : decode cX9_coins 221 = .ok (.getfield 41, 3) := by decide +kernel
theorem dX9_coins_224 : decode cX9_coins 224 = .ok (.bipush 100, 2) := by decide +kernel
theorem dX9_coins_226 : decode cX9_coins 226 = .ok (.iload_n 3, 1) := by decide +kernel
theorem dX9_coins_227 : decode cX9_coins 227 = .ok (.imul, 1) := by decide +kernel
theorem dX9_coins_228 : decode cX9_coins 228 = .ok (.iload 4, 2) := by decide +kernel
theorem dX9_coins_230 : decode cX9_coins 230 = .ok (.iadd, 1) := by decide +kernel
theorem dX9_coins_231 : decode cX9_coins 231 = .ok (.iload 5, 2) := by decide +kernel
theorem dX9_coins_233 : decode cX9_coins 233 = .ok (.iastore, 1) := by decide +kernel
theorem dX9_coins_234 : decode cX9_coins 234 = .ok (.aload_n 0, 1) := by decide +kernel
theorem dX9_coins_235 : decode cX9_coins 235 = .ok (.getfield 44, 3) := by decide +kernel
theorem dX9_coins_238 : decode cX9_coins 238 = .ok (.bipush 100, 2) := by decide +kernel
theorem dX9_coins_240 : decode cX9_coins 240 = .ok (.iload_n 3, 1) := by decide +kernel
theorem dX9_coins_241 : decode cX9_coins 241 = .ok (.imul, 1) := by decide +kernel
theorem dX9_coins_242 : decode cX9_coins 242 = .ok (.iload 4, 2) := by decide +kernel
theorem dX9_coins_244 : decode cX9_coins 244 = .ok (.iadd, 1) := by decide +kernel
theorem dX9_coins_245 : decode cX9_coins 245 = .ok (.iload 6, 2) := by decide +kernel
theorem dX9_coins_247 : decode cX9_coins 247 = .ok (.iastore, 1) := by decide +kernel
theorem dX9_coins_248 : decode cX9_coins 248 = .ok (.iinc 4 1, 3) := by decide +kernel
theorem dX9_coins_251 : decode cX9_coins 251 = .ok (.goto (-159), 3) := by decide +kernel
theorem dX9_coins_254 : decode cX9_coins 254 = .ok (.iinc 3 (-1), 3) := by decide +kernel
theorem dX9_coins_257 : decode cX9_coins 257 = .ok (.goto (-172), 3) := by decide +kernel
theorem dX9_coins_260 : decode cX9_coins 260 = .ok (.iload_n 2, 1) := by decide +kernel
theorem dX9_coins_261 : decode cX9_coins 261 = .ok (.ifCond .ge 24, 3) := by decide +kernel
theorem dX9_coins_264 : decode cX9_coins 264 = .ok (.iload_n 2, 1) := by decide +kernel
theorem dX9_coins_265 : decode cX9_coins 265 = .ok (.iconst (-1), 1) := by decide +kernel
theorem dX9_coins_266 : decode cX9_coins 266 = .ok (.if_icmp .ne 12, 3) := by decide +kernel
theorem dX9_coins_269 : decode cX9_coins 269 = .ok (.aload_n 0, 1) := by decide +kernel
theorem dX9_coins_270 : decode cX9_coins 270 = .ok (.getfield 41, 3) := by decide +kernel
theorem dX9_coins_273 : decode cX9_coins 273 = .ok (.iload_n 1, 1) := by decide +kernel
theorem dX9_coins_274 : decode cX9_coins 274 = .ok (.iaload, 1) := by decide +kernel
theorem dX9_coins_275 : decode cX9_coins 275 = .ok (.goto 9, 3) := by decide +kernel
theorem dX9_coins_278 : decode cX9_coins 278 = .ok (.aload_n 0, 1) := by decide +kernel
theorem dX9_coins_279 : decode cX9_coins 279 = .ok (.getfield 44, 3) := by decide +kernel
theorem dX9_coins_282 : decode cX9_coins 282 = .ok (.iload_n 1, 1) := by decide +kernel
theorem dX9_coins_283 : decode cX9_coins 283 = .ok (.iaload, 1) := by decide +kernel
theorem dX9_coins_284 : decode cX9_coins 284 = .ok (.ireturn, 1) := by decide +kernel
theorem dX9_coins_285 : decode cX9_coins 285 = .ok (.iload_n 1, 1) := by decide +kernel
theorem dX9_coins_286 : decode cX9_coins 286 = .ok (.istore_n 3, 1) := by decide +kernel
theorem dX9_coins_287 : decode cX9_coins 287 = .ok (.iconst 0, 1) := by decide +kernel
theorem dX9_coins_288 : decode cX9_coins 288 = .ok (.istore 4, 2) := by decide +kernel
theorem dX9_coins_290 : decode cX9_coins 290 = .ok (.iconst 0, 1) := by decide +kernel
theorem dX9_coins_291 : decode cX9_coins 291 = .ok (.istore 5, 2) := by decide +kernel
theorem dX9_coins_293 : decode cX9_coins 293 = .ok (.iload 5, 2) := by decide +kernel
theorem dX9_coins_295 : decode cX9_coins 295 = .ok (.iload_n 2, 1) := by decide +kernel
theorem dX9_coins_296 : decode cX9_coins 296 = .ok (.if_icmp .gt 128, 3) := by decide +kernel
theorem dX9_coins_299 : decode cX9_coins 299 = .ok (.iconst (-1), 1) := by decide +kernel
theorem dX9_coins_300 : decode cX9_coins 300 = .ok (.istore 4, 2) := by decide +kernel
theorem dX9_coins_302 : decode cX9_coins 302 = .ok (.iconst 0, 1) := by decide +kernel
theorem dX9_coins_303 : decode cX9_coins 303 = .ok (.istore 6, 2) := by decide +kernel
theorem dX9_coins_305 : decode cX9_coins 305 = .ok (.iload 6, 2) := by decide +kernel
theorem dX9_coins_307 : decode cX9_coins 307 = .ok (.iload_n 3, 1) := by decide +kernel
theorem dX9_coins_308 : decode cX9_coins 308 = .ok (.if_icmp .gt 105, 3) := by decide +kernel
theorem dX9_coins_311 : decode cX9_coins 311 = .ok (.iload 4, 2) := by decide +kernel
theorem dX9_coins_313 : decode cX9_coins 313 = .ok (.ifCond .ge 100, 3) := by decide +kernel
theorem dX9_coins_316 : decode cX9_coins 316 = .ok (.bipush 100, 2) := by decide +kernel
theorem dX9_coins_318 : decode cX9_coins 318 = .ok (.iload 5, 2) := by decide +kernel
theorem dX9_coins_320 : decode cX9_coins 320 = .ok (.iconst 1, 1) := by decide +kernel
theorem dX9_coins_321 : decode cX9_coins 321 = .ok (.iadd, 1) := by decide +kernel
theorem dX9_coins_322 : decode cX9_coins 322 = .ok (.imul, 1) := by decide +kernel
theorem dX9_coins_323 : decode cX9_coins 323 = .ok (.iload_n 3, 1) := by decide +kernel
theorem dX9_coins_324 : decode cX9_coins 324 = .ok (.iadd, 1) := by decide +kernel
theorem dX9_coins_325 : decode cX9_coins 325 = .ok (.iload 6, 2) := by decide +kernel
theorem dX9_coins_327 : decode cX9_coins 327 = .ok (.isub, 1) := by decide +kernel
theorem dX9_coins_328 : decode cX9_coins 328 = .ok (.istore 7, 2) := by decide +kernel
theorem dX9_coins_330 : decode cX9_coins 330 = .ok (.aload_n 0, 1) := by decide +kernel
theorem dX9_coins_331 : decode cX9_coins 331 = .ok (.iload 5, 2) := by decide +kernel
theorem dX9_coins_333 : decode cX9_coins 333 = .ok (.iload 6, 2) := by decide +kernel
theorem dX9_coins_335 : decode cX9_coins 335 = .ok (.invokevirtual 161, 3) := by decide +kernel
theorem dX9_coins_338 : decode cX9_coins 338 = .ok (.aload_n 0, 1) := by decide +kernel
theorem dX9_coins_339 : decode cX9_coins 339 = .ok (.getfield 41, 3) := by decide +kernel
theorem dX9_coins_342 : decode cX9_coins 342 = .ok (.iload 7, 2) := by decide +kernel
theorem dX9_coins_344 : decode cX9_coins 344 = .ok (.iaload, 1) := by decide +kernel
theorem dX9_coins_345 : decode cX9_coins 345 = .ok (.iadd, 1) := by decide +kernel
theorem dX9_coins_346 : decode cX9_coins 346 = .ok (.aload_n 0, 1) := by decide +kernel
theorem dX9_coins_347 : decode cX9_coins 347 = .ok (.getfield 41, 3) := by decide +kernel
theorem dX9_coins_350 : decode cX9_coins 350 = .ok (.bipush 100, 2) := by decide +kernel
theorem dX9_coins_352 : decode cX9_coins 352 = .ok (.iload 5, 2) := by decide +kernel
theorem dX9_coins_354 : decode cX9_coins 354 = .ok (.imul, 1) := by decide +kernel
theorem dX9_coins_355 : decode cX9_coins 355 = .ok (.iload_n 3, 1) := by decide +kernel
theorem dX9_coins_356 : decode cX9_coins 356 = .ok (.iadd, 1) := by decide +kernel
theorem dX9_coins_357 : decode cX9_coins 357 = .ok (.iaload, 1) := by decide +kernel
theorem dX9_coins_358 : decode cX9_coins 358 = .ok (.if_icmp .ne 32, 3) := by decide +kernel
theorem dX9_coins_361 : decode cX9_coins 361 = .ok (.iload 6, 2) := by decide +kernel
theorem dX9_coins_363 : decode cX9_coins 363 = .ok (.aload_n 0, 1) := by decide +kernel
theorem dX9_coins_364 : decode cX9_coins 364 = .ok (.getfield 44, 3) := by decide +kernel
theorem dX9_coins_367 : decode cX9_coins 367 = .ok (.iload 7, 2) := by decide +kernel
theorem dX9_coins_369 : decode cX9_coins 369 = .ok (.iaload, 1) := by decide +kernel
theorem dX9_coins_370 : decode cX9_coins 370 = .ok (.iadd, 1) := by decide +kernel
theorem dX9_coins_371 : decode cX9_coins 371 = .ok (.aload_n 0, 1) := by decide +kernel
theorem dX9_coins_372 : decode cX9_coins 372 = .ok (.getfield 44, 3) := by decide +kernel
theorem dX9_coins_375 : decode cX9_coins 375 = .ok (.bipush 100, 2) := by decide +kernel
theorem dX9_coins_377 : decode cX9_coins 377 = .ok (.iload 5, 2) := by decide +kernel
theorem dX9_coins_379 : decode cX9_coins 379 = .ok (.imul, 1) := by decide +kernel
theorem dX9_coins_380 : decode cX9_coins 380 = .ok (.iload_n 3, 1) := by decide +kernel
theorem dX9_coins_381 : decode cX9_coins 381 = .ok (.iadd, 1) := by decide +kernel
theorem dX9_coins_382 : decode cX9_coins 382 = .ok (.iaload, 1) := by decide +kernel
theorem dX9_coins_383 : decode cX9_coins 383 = .ok (.if_icmp .ne 7, 3) := by decide +kernel
theorem dX9_coins_386 : decode cX9_coins 386 = .ok (.iconst 1, 1) := by decide +kernel
theorem dX9_coins_387 : decode cX9_coins 387 = .ok (.goto 4, 3) := by decide +kernel
theorem dX9_coins_390 : decode cX9_coins 390 = .ok (.iconst 0, 1) := by decide +kernel
theorem dX9_coins_391 : decode cX9_coins 391 = .ok (.istore 8, 2) := by decide +kernel
theorem dX9_coins_393 : decode cX9_coins 393 = .ok (.iload 8, 2) := by decide +kernel
theorem dX9_coins_395 : decode cX9_coins 395 = .ok (.ifCond .eq 8, 3) := by decide +kernel
theorem dX9_coins_398 : decode cX9_coins 398 = .ok (.iload 6, 2) := by decide +kernel
theorem dX9_coins_400 : decode cX9_coins 400 = .ok (.goto 5, 3) := by decide +kernel
theorem dX9_coins_403 : decode cX9_coins 403 = .ok (.iload 4, 2) := by decide +kernel
theorem dX9_coins_405 : decode cX9_coins 405 = .ok (.istore 4, 2) := by decide +kernel
theorem dX9_coins_407 : decode cX9_coins 407 = .ok (.iinc 6 1, 3) := by decide +kernel
theorem dX9_coins_410 : decode cX9_coins 410 = .ok (.goto (-105), 3) := by decide +kernel
theorem dX9_coins_413 : decode cX9_coins 413 = .ok (.iload_n 3, 1) := by decide +kernel
theorem dX9_coins_414 : decode cX9_coins 414 = .ok (.iload 4, 2) := by decide +kernel
theorem dX9_coins_416 : decode cX9_coins 416 = .ok (.isub, 1) := by decide +kernel
theorem dX9_coins_417 : decode cX9_coins 417 = .ok (.istore_n 3, 1) := by decide +kernel
theorem dX9_coins_418 : decode cX9_coins 418 = .ok (.iinc 5 1, 3) := by decide +kernel
theorem dX9_coins_421 : decode cX9_coins 421 = .ok (.goto (-128), 3) := by decide +kernel
theorem dX9_coins_424 : decode cX9_coins 424 = .ok (.iload 4, 2) := by decide +kernel
theorem dX9_coins_426 : decode cX9_coins 426 = .ok (.ireturn, 1) := by decide +kernel
theorem dX9_free_0 : decode cX9_free 0 = .ok (.aload_n 0, 1) := by decide +kernel
theorem dX9_free_1 : decode cX9_free 1 = .ok (.iload_n 1, 1) := by decide +kernel
theorem dX9_free_2 : decode cX9_free 2 = .ok (.invokevirtual 104, 3) := by decide +kernel
theorem dX9_free_5 : decode cX9_free 5 = .ok (.ifCond .eq 13, 3) := by decide +kernel
theorem dX9_free_8 : decode cX9_free 8 = .ok (.iload_n 2, 1) := by decide +kernel
theorem dX9_free_9 : decode cX9_free 9 = .ok (.iconst 0, 1) := by decide +kernel
theorem dX9_free_10 : decode cX9_free 10 = .ok (.bipush 99, 2) := by decide +kernel
theorem dX9_free_12 : decode cX9_free 12 = .ok (.invokestatic 54, 3) := by decide +kernel
theorem dX9_free_15 : decode cX9_free 15 = .ok (.ifCond .ne 5, 3) := by decide +kernel
theorem dX9_free_18 : decode cX9_free 18 = .ok (.iconst (-1), 1) := by decide +kernel
theorem dX9_free_19 : decode cX9_free 19 = .ok (.ireturn, 1) := by decide +kernel
theorem dX9_free_20 : decode cX9_free 20 = .ok (.aload_n 0, 1) := by decide +kernel
theorem dX9_free_21 : decode cX9_free 21 = .ok (.getfield 19, 3) := by decide +kernel
theorem dX9_free_24 : decode cX9_free 24 = .ok (.iload_n 1, 1) := by decide +kernel
theorem dX9_free_25 : decode cX9_free 25 = .ok (.iaload, 1) := by decide +kernel
theorem dX9_free_26 : decode cX9_free 26 = .ok (.istore_n 3, 1) := by decide +kernel
theorem dX9_free_27 : decode cX9_free 27 = .ok (.iload_n 3, 1) := by decide +kernel
theorem dX9_free_28 : decode cX9_free 28 = .ok (.ifCond .ne 5, 3) := by decide +kernel
theorem dX9_free_31 : decode cX9_free 31 = .ok (.iconst 0, 1) := by decide +kernel
theorem dX9_free_32 : decode cX9_free 32 = .ok (.ireturn, 1) := by decide +kernel
theorem dX9_free_33 : decode cX9_free 33 = .ok (.iconst 1, 1) := by decide +kernel
theorem dX9_free_34 : decode cX9_free 34 = .ok (.istore 4, 2) := by decide +kernel
theorem dX9_free_36 : decode cX9_free 36 = .ok (.iload 4, 2) := by decide +kernel
theorem dX9_free_38 : decode cX9_free 38 = .ok (.bipush 99, 2) := by decide +kernel
theorem dX9_free_40 : decode cX9_free 40 = .ok (.if_icmp .gt 43, 3) := by decide +kernel
theorem dX9_free_43 : decode cX9_free 43 = .ok (.iload_n 3, 1) := by decide +kernel
theorem dX9_free_44 : decode cX9_free 44 = .ok (.iload_n 2, 1) := by decide +kernel
theorem dX9_free_45 : decode cX9_free 45 = .ok (.if_icmp .le 9, 3) := by decide +kernel
theorem dX9_free_48 : decode cX9_free 48 = .ok (.iload_n 3, 1) := by decide +kernel
theorem dX9_free_49 : decode cX9_free 49 = .ok (.iload_n 2, 1) := by decide +kernel
theorem dX9_free_50 : decode cX9_free 50 = .ok (.isub, 1) := by decide +kernel
theorem dX9_free_51 : decode cX9_free 51 = .ok (.goto 4, 3) := by decide +kernel
theorem dX9_free_54 : decode cX9_free 54 = .ok (.iconst 0, 1) := by decide +kernel
theorem dX9_free_55 : decode cX9_free 55 = .ok (.istore_n 3, 1) := by decide +kernel
theorem dX9_free_56 : decode cX9_free 56 = .ok (.iload_n 3, 1) := by decide +kernel
theorem dX9_free_57 : decode cX9_free 57 = .ok (.ifCond .ne 6, 3) := by decide +kernel
theorem dX9_free_60 : decode cX9_free 60 = .ok (.iload 4, 2) := by decide +kernel
theorem dX9_free_62 : decode cX9_free 62 = .ok (.ireturn, 1) := by decide +kernel
theorem dX9_free_63 : decode cX9_free 63 = .ok (.iload_n 3, 1) := by decide +kernel
theorem dX9_free_64 : decode cX9_free 64 = .ok (.aload_n 0, 1) := by decide +kernel
theorem dX9_free_65 : decode cX9_free 65 = .ok (.getfield 13, 3) := by decide +kernel
theorem dX9_free_68 : decode cX9_free 68 = .ok (.bipush 27, 2) := by decide +kernel
theorem dX9_free_70 : decode cX9_free 70 = .ok (.iload_n 1, 1) := by decide +kernel
theorem dX9_free_71 : decode cX9_free 71 = .ok (.iadd, 1) := by decide +kernel
theorem dX9_free_72 : decode cX9_free 72 = .ok (.iaload, 1) := by decide +kernel
theorem dX9_free_73 : decode cX9_free 73 = .ok (.invokestatic 124, 3) := by decide +kernel
theorem dX9_free_76 : decode cX9_free 76 = .ok (.istore_n 3, 1) := by decide +kernel
theorem dX9_free_77 : decode cX9_free 77 = .ok (.iinc 4 1, 3) := by decide +kernel
theorem dX9_free_80 : decode cX9_free 80 = .ok (.goto (-44), 3) := by decide +kernel
theorem dX9_free_83 : decode cX9_free 83 = .ok (.bipush (-9), 2) := by decide +kernel
theorem dX9_free_85 : decode cX9_free 85 = .ok (.ireturn, 1) := by decide +kernel
theorem dX9_who_0 : decode cX9_who 0 = .ok (.iload_n 1, 1) := by decide +kernel
theorem dX9_who_1 : decode cX9_who 1 = .ok (.iconst 0, 1) := by decide +kernel
theorem dX9_who_2 : decode cX9_who 2 = .ok (.bipush 6, 2) := by decide +kernel
theorem dX9_who_4 : decode cX9_who 4 = .ok (.invokestatic 54, 3) := by decide +kernel
theorem dX9_who_7 : decode cX9_who 7 = .ok (.ifCond .eq 33, 3) := by decide +kernel
theorem dX9_who_10 : decode cX9_who 10 = .ok (.iload_n 2, 1) := by decide +kernel
theorem dX9_who_11 : decode cX9_who 11 = .ok (.iconst 0, 1) := by decide +kernel
theorem dX9_who_12 : decode cX9_who 12 = .ok (.bipush 99, 2) := by decide +kernel
theorem dX9_who_14 : decode cX9_who 14 = .ok (.invokestatic 54, 3) := by decide +kernel
theorem dX9_who_17 : decode cX9_who 17 = .ok (.ifCond .eq 23, 3) := by decide +kernel
theorem dX9_who_20 : decode cX9_who 20 = .ok (.iload_n 3, 1) := by decide +kernel
theorem dX9_who_21 : decode cX9_who 21 = .ok (.iconst 0, 1) := by decide +kernel
theorem dX9_who_22 : decode cX9_who 22 = .ok (.bipush 99, 2) := by decide +kernel
theorem dX9_who_24 : decode cX9_who 24 = .ok (.invokestatic 54, 3) := by decide +kernel
theorem dX9_who_27 : decode cX9_who 27 = .ok (.ifCond .eq 13, 3) := by decide +kernel
theorem dX9_who_30 : decode cX9_who 30 = .ok (.iload 4, 2) := by decide +kernel
theorem dX9_who_32 : decode cX9_who 32 = .ok (.iconst 0, 1) := by decide +kernel
theorem dX9_who_33 : decode cX9_who 33 = .ok (.iconst 2, 1) := by decide +kernel
theorem dX9_who_34 : decode cX9_who 34 = .ok (.invokestatic 54, 3) := by decide +kernel
theorem dX9_who_37 : decode cX9_who 37 = .ok (.ifCond .ne 5, 3) := by decide +kernel
theorem dX9_who_40 : decode cX9_who 40 = .ok (.iconst (-1), 1) := by decide +kernel
theorem dX9_who_41 : decode cX9_who 41 = .ok (.ireturn, 1) := by decide +kernel
theorem dX9_who_42 : decode cX9_who 42 = .ok (.iconst 0, 1) := by decide +kernel
theorem dX9_who_43 : decode cX9_who 43 = .ok (.istore 5, 2) := by decide +kernel
theorem dX9_who_45 : decode cX9_who 45 = .ok (.bipush 31, 2) := by decide +kernel
theorem dX9_who_47 : decode cX9_who 47 = .ok (.istore 6, 2) := by decide +kernel
theorem dX9_who_49 : decode cX9_who 49 = .ok (.iconst 0, 1) := by decide +kernel
theorem dX9_who_50 : decode cX9_who 50 = .ok (.istore 7, 2) := by decide +kernel
theorem dX9_who_52 : decode cX9_who 52 = .ok (.iconst 0, 1) := by decide +kernel
theorem dX9_who_53 : decode cX9_who 53 = .ok (.istore 8, 2) := by decide +kernel
theorem dX9_who_55 : decode cX9_who 55 = .ok (.iload 8, 2) := by decide +kernel
theorem dX9_who_57 : decode cX9_who 57 = .ok (.sipush 16807, 3) := by decide +kernel
theorem dX9_who_60 : decode cX9_who 60 = .ok (.if_icmp .ge 203, 3) := by decide +kernel
theorem dX9_who_63 : decode cX9_who 63 = .ok (.iload 8, 2) := by decide +kernel
theorem dX9_who_65 : decode cX9_who 65 = .ok (.istore 9, 2) := by decide +kernel
theorem dX9_who_67 : decode cX9_who 67 = .ok (.iconst 0, 1) := by decide +kernel
theorem dX9_who_68 : decode cX9_who 68 = .ok (.istore 10, 2) := by decide +kernel
theorem dX9_who_70 : decode cX9_who 70 = .ok (.iconst 0, 1) := by decide +kernel
theorem dX9_who_71 : decode cX9_who 71 = .ok (.istore 11, 2) := by decide +kernel
theorem dX9_who_73 : decode cX9_who 73 = .ok (.iconst 0, 1) := by decide +kernel
theorem dX9_who_74 : decode cX9_who 74 = .ok (.istore 12, 2) := by decide +kernel
theorem dX9_who_76 : decode cX9_who 76 = .ok (.iconst 0, 1) := by decide +kernel
theorem dX9_who_77 : decode cX9_who 77 = .ok (.istore 13, 2) := by decide +kernel
end
section
theorem dX9_who_79 : decode cX9_who 79 = .ok (.iconst 0, 1) := by decide +kernel
theorem dX9_who_80 : decode cX9_who 80 = .ok (.istore 14, 2) := by decide +kernel
theorem dX9_who_82 : decode cX9_who 82 = .ok (.iload 14, 2) := by decide +kernel
theorem dX9_who_84 : decode cX9_who 84 = .ok (.iconst 5, 1) := by decide +kernel
theorem dX9_who_85 : decode cX9_who 85 = .ok (.if_icmp .ge 99, 3) := by decide +kernel
theorem dX9_who_88 : decode cX9_who 88 = .ok (.iload 9, 2) := by decide +kernel
theorem dX9_who_90 : decode cX9_who 90 = .ok (.bipush 7, 2) := by decide +kernel
theorem dX9_who_92 : decode cX9_who 92 = .ok (.irem, 1) := by decide +kernel
theorem dX9_who_93 : decode cX9_who 93 = .ok (.istore 15, 2) := by decide +kernel
theorem dX9_who_95 : decode cX9_who 95 = .ok (.iload 9, 2) := by decide +kernel
theorem dX9_who_97 : decode cX9_who 97 = .ok (.bipush 7, 2) := by decide +kernel
theorem dX9_who_99 : decode cX9_who 99 = .ok (.idiv, 1) := by decide +kernel
theorem dX9_who_100 : decode cX9_who 100 = .ok (.istore 9, 2) := by decide +kernel
theorem dX9_who_102 : decode cX9_who 102 = .ok (.iload 10, 2) := by decide +kernel
theorem dX9_who_104 : decode cX9_who 104 = .ok (.iload 14, 2) := by decide +kernel
theorem dX9_who_106 : decode cX9_who 106 = .ok (.aload_n 0, 1) := by decide +kernel
theorem dX9_who_107 : decode cX9_who 107 = .ok (.getfield 13, 3) := by decide +kernel
theorem dX9_who_110 : decode cX9_who 110 = .ok (.iconst 1, 1) := by decide +kernel
theorem dX9_who_111 : decode cX9_who 111 = .ok (.iaload, 1) := by decide +kernel
theorem dX9_who_112 : decode cX9_who 112 = .ok (.if_icmp .ge 8, 3) := by decide +kernel
theorem dX9_who_115 : decode cX9_who 115 = .ok (.iload 15, 2) := by decide +kernel
theorem dX9_who_117 : decode cX9_who 117 = .ok (.goto 8, 3) := by decide +kernel
theorem dX9_who_120 : decode cX9_who 120 = .ok (.bipush 9, 2) := by decide +kernel
theorem dX9_who_122 : decode cX9_who 122 = .ok (.iload 15, 2) := by decide +kernel
theorem dX9_who_124 : decode cX9_who 124 = .ok (.imul, 1) := by decide +kernel
theorem dX9_who_125 : decode cX9_who 125 = .ok (.iadd, 1) := by decide +kernel
theorem dX9_who_126 : decode cX9_who 126 = .ok (.istore 10, 2) := by decide +kernel
theorem dX9_who_128 : decode cX9_who 128 = .ok (.iload 11, 2) := by decide +kernel
theorem dX9_who_130 : decode cX9_who 130 = .ok (.iload 15, 2) := by decide +kernel
theorem dX9_who_132 : decode cX9_who 132 = .ok (.aload_n 0, 1) := by decide +kernel
theorem dX9_who_133 : decode cX9_who 133 = .ok (.iload 14, 2) := by decide +kernel
theorem dX9_who_135 : decode cX9_who 135 = .ok (.invokevirtual 117, 3) := by decide +kernel
theorem dX9_who_138 : decode cX9_who 138 = .ok (.imul, 1) := by decide +kernel
theorem dX9_who_139 : decode cX9_who 139 = .ok (.iadd, 1) := by decide +kernel
theorem dX9_who_140 : decode cX9_who 140 = .ok (.istore 11, 2) := by decide +kernel
theorem dX9_who_142 : decode cX9_who 142 = .ok (.iload 12, 2) := by decide +kernel
theorem dX9_who_144 : decode cX9_who 144 = .ok (.iload 15, 2) := by decide +kernel
theorem dX9_who_146 : decode cX9_who 146 = .ok (.aload_n 0, 1) := by decide +kernel
theorem dX9_who_147 : decode cX9_who 147 = .ok (.getfield 13, 3) := by decide +kernel
theorem dX9_who_150 : decode cX9_who 150 = .ok (.bipush 44, 2) := by decide +kernel
theorem dX9_who_152 : decode cX9_who 152 = .ok (.iload 14, 2) := by decide +kernel
theorem dX9_who_154 : decode cX9_who 154 = .ok (.iadd, 1) := by decide +kernel
theorem dX9_who_155 : decode cX9_who 155 = .ok (.iaload, 1) := by decide +kernel
theorem dX9_who_156 : decode cX9_who 156 = .ok (.imul, 1) := by decide +kernel
theorem dX9_who_157 : decode cX9_who 157 = .ok (.iadd, 1) := by decide +kernel
theorem dX9_who_158 : decode cX9_who 158 = .ok (.istore 12, 2) := by decide +kernel
theorem dX9_who_160 : decode cX9_who 160 = .ok (.iload 13, 2) := by decide +kernel
theorem dX9_who_162 : decode cX9_who 162 = .ok (.iload 15, 2) := by decide +kernel
theorem dX9_who_164 : decode cX9_who 164 = .ok (.ifCond .le 10, 3) := by decide +kernel
theorem dX9_who_167 : decode cX9_who 167 = .ok (.iconst 1, 1) := by decide +kernel
theorem dX9_who_168 : decode cX9_who 168 = .ok (.iload 14, 2) := by decide +kernel
theorem dX9_who_170 : decode cX9_who 170 = .ok (.ishl, 1) := by decide +kernel
theorem dX9_who_171 : decode cX9_who 171 = .ok (.goto 4, 3) := by decide +kernel
theorem dX9_who_174 : decode cX9_who 174 = .ok (.iconst 0, 1) := by decide +kernel
theorem dX9_who_175 : decode cX9_who 175 = .ok (.ior, 1) := by decide +kernel
theorem dX9_who_176 : decode cX9_who 176 = .ok (.istore 13, 2) := by decide +kernel
theorem dX9_who_178 : decode cX9_who 178 = .ok (.iinc 14 1, 3) := by decide +kernel
theorem dX9_who_181 : decode cX9_who 181 = .ok (.goto (-99), 3) := by decide +kernel
theorem dX9_who_184 : decode cX9_who 184 = .ok (.iload 10, 2) := by decide +kernel
theorem dX9_who_186 : decode cX9_who 186 = .ok (.iload_n 1, 1) := by decide +kernel
theorem dX9_who_187 : decode cX9_who 187 = .ok (.if_icmp .ne 19, 3) := by decide +kernel
theorem dX9_who_190 : decode cX9_who 190 = .ok (.iload 11, 2) := by decide +kernel
theorem dX9_who_192 : decode cX9_who 192 = .ok (.iload_n 2, 1) := by decide +kernel
theorem dX9_who_193 : decode cX9_who 193 = .ok (.if_icmp .ne 13, 3) := by decide +kernel
theorem dX9_who_196 : decode cX9_who 196 = .ok (.iload 12, 2) := by decide +kernel
theorem dX9_who_198 : decode cX9_who 198 = .ok (.iload_n 3, 1) := by decide +kernel
theorem dX9_who_199 : decode cX9_who 199 = .ok (.if_icmp .ne 7, 3) := by decide +kernel
theorem dX9_who_202 : decode cX9_who 202 = .ok (.iconst 1, 1) := by decide +kernel
theorem dX9_who_203 : decode cX9_who 203 = .ok (.goto 4, 3) := by decide +kernel
theorem dX9_who_206 : decode cX9_who 206 = .ok (.iconst 0, 1) := by decide +kernel
theorem dX9_who_207 : decode cX9_who 207 = .ok (.istore 14, 2) := by decide +kernel
theorem dX9_who_209 : decode cX9_who 209 = .ok (.iload 5, 2) := by decide +kernel
theorem dX9_who_211 : decode cX9_who 211 = .ok (.iload 14, 2) := by decide +kernel
theorem dX9_who_213 : decode cX9_who 213 = .ok (.ifCond .eq 7, 3) := by decide +kernel
theorem dX9_who_216 : decode cX9_who 216 = .ok (.iconst 1, 1) := by decide +kernel
theorem dX9_who_217 : decode cX9_who 217 = .ok (.goto 4, 3) := by decide +kernel
theorem dX9_who_220 : decode cX9_who 220 = .ok (.iconst 0, 1) := by decide +kernel
theorem dX9_who_221 : decode cX9_who 221 = .ok (.iadd, 1) := by decide +kernel
theorem dX9_who_222 : decode cX9_who 222 = .ok (.istore 5, 2) := by decide +kernel
theorem dX9_who_224 : decode cX9_who 224 = .ok (.iload 6, 2) := by decide +kernel
theorem dX9_who_226 : decode cX9_who 226 = .ok (.iload 14, 2) := by decide +kernel
theorem dX9_who_228 : decode cX9_who 228 = .ok (.ifCond .eq 8, 3) := by decide +kernel
theorem dX9_who_231 : decode cX9_who 231 = .ok (.iload 13, 2) := by decide +kernel
theorem dX9_who_233 : decode cX9_who 233 = .ok (.goto 5, 3) := by decide +kernel
theorem dX9_who_236 : decode cX9_who 236 = .ok (.bipush 31, 2) := by decide +kernel
theorem dX9_who_238 : decode cX9_who 238 = .ok (.iand, 1) := by decide +kernel
theorem dX9_who_239 : decode cX9_who 239 = .ok (.istore 6, 2) := by decide +kernel
theorem dX9_who_241 : decode cX9_who 241 = .ok (.iload 7, 2) := by decide +kernel
theorem dX9_who_243 : decode cX9_who 243 = .ok (.iload 14, 2) := by decide +kernel
theorem dX9_who_245 : decode cX9_who 245 = .ok (.ifCond .eq 8, 3) := by decide +kernel
theorem dX9_who_248 : decode cX9_who 248 = .ok (.iload 13, 2) := by decide +kernel
theorem dX9_who_250 : decode cX9_who 250 = .ok (.goto 4, 3) := by decide +kernel
theorem dX9_who_253 : decode cX9_who 253 = .ok (.iconst 0, 1) := by decide +kernel
theorem dX9_who_254 : decode cX9_who 254 = .ok (.ior, 1) := by decide +kernel
theorem dX9_who_255 : decode cX9_who 255 = .ok (.istore 7, 2) := by decide +kernel
theorem dX9_who_257 : decode cX9_who 257 = .ok (.iinc 8 1, 3) := by decide +kernel
theorem dX9_who_260 : decode cX9_who 260 = .ok (.goto (-205), 3) := by decide +kernel
theorem dX9_who_263 : decode cX9_who 263 = .ok (.iload 4, 2) := by decide +kernel
theorem dX9_who_265 : decode cX9_who 265 = .ok (.ifCond .ne 8, 3) := by decide +kernel
theorem dX9_who_268 : decode cX9_who 268 = .ok (.iload 5, 2) := by decide +kernel
theorem dX9_who_270 : decode cX9_who 270 = .ok (.goto 25, 3) := by decide +kernel
theorem dX9_who_273 : decode cX9_who 273 = .ok (.iload 4, 2) := by decide +kernel
theorem dX9_who_275 : decode cX9_who 275 = .ok (.iconst 2, 1) := by decide +kernel
theorem dX9_who_276 : decode cX9_who 276 = .ok (.if_icmp .ne 8, 3) := by decide +kernel
theorem dX9_who_279 : decode cX9_who 279 = .ok (.iload 7, 2) := by decide +kernel
theorem dX9_who_281 : decode cX9_who 281 = .ok (.goto 14, 3) := by decide +kernel
theorem dX9_who_284 : decode cX9_who 284 = .ok (.iload 5, 2) := by decide +kernel
theorem dX9_who_286 : decode cX9_who 286 = .ok (.ifCond .ne 7, 3) := by decide +kernel
theorem dX9_who_289 : decode cX9_who 289 = .ok (.iconst 0, 1) := by decide +kernel
theorem dX9_who_290 : decode cX9_who 290 = .ok (.goto 5, 3) := by decide +kernel
theorem dX9_who_293 : decode cX9_who 293 = .ok (.iload 6, 2) := by decide +kernel
theorem dX9_who_295 : decode cX9_who 295 = .ok (.ireturn, 1) := by decide +kernel
theorem dX9_odds_0 : decode cX9_odds 0 = .ok (.iload_n 1, 1) := by decide +kernel
theorem dX9_odds_1 : decode cX9_odds 1 = .ok (.iconst 0, 1) := by decide +kernel
theorem dX9_odds_2 : decode cX9_odds 2 = .ok (.bipush 99, 2) := by decide +kernel
theorem dX9_odds_4 : decode cX9_odds 4 = .ok (.invokestatic 54, 3) := by decide +kernel
theorem dX9_odds_7 : decode cX9_odds 7 = .ok (.ifCond .eq 12, 3) := by decide +kernel
theorem dX9_odds_10 : decode cX9_odds 10 = .ok (.iload_n 2, 1) := by decide +kernel
theorem dX9_odds_11 : decode cX9_odds 11 = .ok (.iconst 0, 1) := by decide +kernel
theorem dX9_odds_12 : decode cX9_odds 12 = .ok (.iconst 1, 1) := by decide +kernel
theorem dX9_odds_13 : decode cX9_odds 13 = .ok (.invokestatic 54, 3) := by decide +kernel
theorem dX9_odds_16 : decode cX9_odds 16 = .ok (.ifCond .ne 5, 3) := by decide +kernel
theorem dX9_odds_19 : decode cX9_odds 19 = .ok (.iconst (-1), 1) := by decide +kernel
theorem dX9_odds_20 : decode cX9_odds 20 = .ok (.ireturn, 1) := by decide +kernel
theorem dX9_odds_21 : decode cX9_odds 21 = .ok (.iconst 0, 1) := by decide +kernel
theorem dX9_odds_22 : decode cX9_odds 22 = .ok (.istore_n 3, 1) := by decide +kernel
theorem dX9_odds_23 : decode cX9_odds 23 = .ok (.iconst 1, 1) := by decide +kernel
theorem dX9_odds_24 : decode cX9_odds 24 = .ok (.istore 4, 2) := by decide +kernel
theorem dX9_odds_26 : decode cX9_odds 26 = .ok (.iconst 0, 1) := by decide +kernel
theorem dX9_odds_27 : decode cX9_odds 27 = .ok (.istore 5, 2) := by decide +kernel
theorem dX9_odds_29 : decode cX9_odds 29 = .ok (.iload 5, 2) := by decide +kernel
theorem dX9_odds_31 : decode cX9_odds 31 = .ok (.aload_n 0, 1) := by decide +kernel
theorem dX9_odds_32 : decode cX9_odds 32 = .ok (.getfield 13, 3) := by decide +kernel
theorem dX9_odds_35 : decode cX9_odds 35 = .ok (.iconst 1, 1) := by decide +kernel
theorem dX9_odds_36 : decode cX9_odds 36 = .ok (.iaload, 1) := by decide +kernel
theorem dX9_odds_37 : decode cX9_odds 37 = .ok (.if_icmp .ge 16, 3) := by decide +kernel
theorem dX9_odds_40 : decode cX9_odds 40 = .ok (.iload 4, 2) := by decide +kernel
theorem dX9_odds_42 : decode cX9_odds 42 = .ok (.bipush 10, 2) := by decide +kernel
theorem dX9_odds_44 : decode cX9_odds 44 = .ok (.imul, 1) := by decide +kernel
theorem dX9_odds_45 : decode cX9_odds 45 = .ok (.istore 4, 2) := by decide +kernel
theorem dX9_odds_47 : decode cX9_odds 47 = .ok (.iinc 5 1, 3) := by decide +kernel
theorem dX9_odds_50 : decode cX9_odds 50 = .ok (.goto (-21), 3) := by decide +kernel
theorem dX9_odds_53 : decode cX9_odds 53 = .ok (.iconst 0, 1) := by decide +kernel
theorem dX9_odds_54 : decode cX9_odds 54 = .ok (.istore 5, 2) := by decide +kernel
theorem dX9_odds_56 : decode cX9_odds 56 = .ok (.iload 5, 2) := by decide +kernel
theorem dX9_odds_58 : decode cX9_odds 58 = .ok (.iconst 1, 1) := by decide +kernel
theorem dX9_odds_59 : decode cX9_odds 59 = .ok (.aload_n 0, 1) := by decide +kernel
theorem dX9_odds_60 : decode cX9_odds 60 = .ok (.getfield 13, 3) := by decide +kernel
theorem dX9_odds_63 : decode cX9_odds 63 = .ok (.iconst 1, 1) := by decide +kernel
theorem dX9_odds_64 : decode cX9_odds 64 = .ok (.iaload, 1) := by decide +kernel
theorem dX9_odds_65 : decode cX9_odds 65 = .ok (.ishl, 1) := by decide +kernel
theorem dX9_odds_66 : decode cX9_odds 66 = .ok (.if_icmp .ge 124, 3) := by decide +kernel
theorem dX9_odds_69 : decode cX9_odds 69 = .ok (.iconst 1, 1) := by decide +kernel
theorem dX9_odds_70 : decode cX9_odds 70 = .ok (.istore 6, 2) := by decide +kernel
theorem dX9_odds_72 : decode cX9_odds 72 = .ok (.iconst 0, 1) := by decide +kernel
theorem dX9_odds_73 : decode cX9_odds 73 = .ok (.istore 7, 2) := by decide +kernel
theorem dX9_odds_75 : decode cX9_odds 75 = .ok (.iconst 0, 1) := by decide +kernel
theorem dX9_odds_76 : decode cX9_odds 76 = .ok (.istore 8, 2) := by decide +kernel
theorem dX9_odds_78 : decode cX9_odds 78 = .ok (.iload 8, 2) := by decide +kernel
theorem dX9_odds_80 : decode cX9_odds 80 = .ok (.aload_n 0, 1) := by decide +kernel
theorem dX9_odds_81 : decode cX9_odds 81 = .ok (.getfield 13, 3) := by decide +kernel
theorem dX9_odds_84 : decode cX9_odds 84 = .ok (.iconst 1, 1) := by decide +kernel
theorem dX9_odds_85 : decode cX9_odds 85 = .ok (.iaload, 1) := by decide +kernel
theorem dX9_odds_86 : decode cX9_odds 86 = .ok (.if_icmp .ge 83, 3) := by decide +kernel
theorem dX9_odds_89 : decode cX9_odds 89 = .ok (.iload 5, 2) := by decide +kernel
theorem dX9_odds_91 : decode cX9_odds 91 = .ok (.iload 8, 2) := by decide +kernel
theorem dX9_odds_93 : decode cX9_odds 93 = .ok (.ishr, 1) := by decide +kernel
theorem dX9_odds_94 : decode cX9_odds 94 = .ok (.iconst 1, 1) := by decide +kernel
theorem dX9_odds_95 : decode cX9_odds 95 = .ok (.iand, 1) := by decide +kernel
theorem dX9_odds_96 : decode cX9_odds 96 = .ok (.iconst 1, 1) := by decide +kernel
theorem dX9_odds_97 : decode cX9_odds 97 = .ok (.if_icmp .ne 7, 3) := by decide +kernel
theorem dX9_odds_100 : decode cX9_odds 100 = .ok (.iconst 1, 1) := by decide +kernel
theorem dX9_odds_101 : decode cX9_odds 101 = .ok (.goto 4, 3) := by decide +kernel
theorem dX9_odds_104 : decode cX9_odds 104 = .ok (.iconst 0, 1) := by decide +kernel
theorem dX9_odds_105 : decode cX9_odds 105 = .ok (.istore 9, 2) := by decide +kernel
theorem dX9_odds_107 : decode cX9_odds 107 = .ok (.iload 6, 2) := by decide +kernel
theorem dX9_odds_109 : decode cX9_odds 109 = .ok (.iload 9, 2) := by decide +kernel
theorem dX9_odds_111 : decode cX9_odds 111 = .ok (.ifCond .eq 19, 3) := by decide +kernel
theorem dX9_odds_114 : decode cX9_odds 114 = .ok (.bipush 10, 2) := by decide +kernel
theorem dX9_odds_116 : decode cX9_odds 116 = .ok (.aload_n 0, 1) := by decide +kernel
theorem dX9_odds_117 : decode cX9_odds 117 = .ok (.getfield 13, 3) := by decide +kernel
theorem dX9_odds_120 : decode cX9_odds 120 = .ok (.bipush 39, 2) := by decide +kernel
theorem dX9_odds_122 : decode cX9_odds 122 = .ok (.iload 8, 2) := by decide +kernel
theorem dX9_odds_124 : decode cX9_odds 124 = .ok (.iadd, 1) := by decide +kernel
theorem dX9_odds_125 : decode cX9_odds 125 = .ok (.iaload, 1) := by decide +kernel
theorem dX9_odds_126 : decode cX9_odds 126 = .ok (.isub, 1) := by decide +kernel
theorem dX9_odds_127 : decode cX9_odds 127 = .ok (.goto 13, 3) := by decide +kernel
theorem dX9_odds_130 : decode cX9_odds 130 = .ok (.aload_n 0, 1) := by decide +kernel
theorem dX9_odds_131 : decode cX9_odds 131 = .ok (.getfield 13, 3) := by decide +kernel
theorem dX9_odds_134 : decode cX9_odds 134 = .ok (.bipush 39, 2) := by decide +kernel
theorem dX9_odds_136 : decode cX9_odds 136 = .ok (.iload 8, 2) := by decide +kernel
theorem dX9_odds_138 : decode cX9_odds 138 = .ok (.iadd, 1) := by decide +kernel
theorem dX9_odds_139 : decode cX9_odds 139 = .ok (.iaload, 1) := by decide +kernel
theorem dX9_odds_140 : decode cX9_odds 140 = .ok (.imul, 1) := by decide +kernel
theorem dX9_odds_141 : decode cX9_odds 141 = .ok (.istore 6, 2) := by decide +kernel
theorem dX9_odds_143 : decode cX9_odds 143 = .ok (.iload 7, 2) := by decide +kernel
theorem dX9_odds_145 : decode cX9_odds 145 = .ok (.iload 9, 2) := by decide +kernel
theorem dX9_odds_147 : decode cX9_odds 147 = .ok (.ifCond .eq 12, 3) := by decide +kernel
theorem dX9_odds_150 : decode cX9_odds 150 = .ok (.aload_n 0, 1) := by decide +kernel
theorem dX9_odds_151 : decode cX9_odds 151 = .ok (.iload 8, 2) := by decide +kernel
theorem dX9_odds_153 : decode cX9_odds 153 = .ok (.invokevirtual 117, 3) := by decide +kernel
theorem dX9_odds_156 : decode cX9_odds 156 = .ok (.goto 4, 3) := by decide +kernel
theorem dX9_odds_159 : decode cX9_odds 159 = .ok (.iconst 0, 1) := by decide +kernel
theorem dX9_odds_160 : decode cX9_odds 160 = .ok (.iadd, 1) := by decide +kernel
theorem dX9_odds_161 : decode cX9_odds 161 = .ok (.istore 7, 2) := by decide +kernel
theorem dX9_odds_163 : decode cX9_odds 163 = .ok (.iinc 8 1, 3) := by decide +kernel
theorem dX9_odds_166 : decode cX9_odds 166 = .ok (.goto (-88), 3) := by decide +kernel
theorem dX9_odds_169 : decode cX9_odds 169 = .ok (.iload_n 3, 1) := by decide +kernel
theorem dX9_odds_170 : decode cX9_odds 170 = .ok (.iload 7, 2) := by decide +kernel
theorem dX9_odds_172 : decode cX9_odds 172 = .ok (.iload_n 1, 1) := by decide +kernel
theorem dX9_odds_173 : decode cX9_odds 173 = .ok (.if_icmp .lt 8, 3) := by decide +kernel
theorem dX9_odds_176 : decode cX9_odds 176 = .ok (.iload 6, 2) := by decide +kernel
theorem dX9_odds_178 : decode cX9_odds 178 = .ok (.goto 4, 3) := by decide +kernel
theorem dX9_odds_181 : decode cX9_odds 181 = .ok (.iconst 0, 1) := by decide +kernel
theorem dX9_odds_182 : decode cX9_odds 182 = .ok (.iadd, 1) := by decide +kernel
theorem dX9_odds_183 : decode cX9_odds 183 = .ok (.istore_n 3, 1) := by decide +kernel
theorem dX9_odds_184 : decode cX9_odds 184 = .ok (.iinc 5 1, 3) := by decide +kernel
theorem dX9_odds_187 : decode cX9_odds 187 = .ok (.goto (-131), 3) := by decide +kernel
theorem dX9_odds_190 : decode cX9_odds 190 = .ok (.iload_n 3, 1) := by decide +kernel
theorem dX9_odds_191 : decode cX9_odds 191 = .ok (.istore 5, 2) := by decide +kernel
theorem dX9_odds_193 : decode cX9_odds 193 = .ok (.iload 4, 2) := by decide +kernel
theorem dX9_odds_195 : decode cX9_odds 195 = .ok (.istore 6, 2) := by decide +kernel
theorem dX9_odds_197 : decode cX9_odds 197 = .ok (.iload 6, 2) := by decide +kernel
theorem dX9_odds_199 : decode cX9_odds 199 = .ok (.ifCond .le 21, 3) := by decide +kernel
theorem dX9_odds_202 : decode cX9_odds 202 = .ok (.iload 5, 2) := by decide +kernel
theorem dX9_odds_204 : decode cX9_odds 204 = .ok (.iload 6, 2) := by decide +kernel
theorem dX9_odds_206 : decode cX9_odds 206 = .ok (.irem, 1) := by decide +kernel
theorem dX9_odds_207 : decode cX9_odds 207 = .ok (.istore 7, 2) := by decide +kernel
theorem dX9_odds_209 : decode cX9_odds 209 = .ok (.iload 6, 2) := by decide +kernel
theorem dX9_odds_211 : decode cX9_odds 211 = .ok (.istore 5, 2) := by decide +kernel
theorem dX9_odds_213 : decode cX9_odds 213 = .ok (.iload 7, 2) := by decide +kernel
theorem dX9_odds_215 : decode cX9_odds 215 = .ok (.istore 6, 2) := by decide +kernel
theorem dX9_odds_217 : decode cX9_odds 217 = .ok (.goto (-20), 3) := by decide +kernel
theorem dX9_odds_220 : decode cX9_odds 220 = .ok (.iload_n 2, 1) := by decide +kernel
theorem dX9_odds_221 : decode cX9_odds 221 = .ok (.ifCond .ne 10, 3) := by decide +kernel
theorem dX9_odds_224 : decode cX9_odds 224 = .ok (.iload_n 3, 1) := by decide +kernel
theorem dX9_odds_225 : decode cX9_odds 225 = .ok (.iload 5, 2) := by decide +kernel
theorem dX9_odds_227 : decode cX9_odds 227 = .ok (.idiv, 1) := by decide +kernel
theorem dX9_odds_228 : decode cX9_odds 228 = .ok (.goto 8, 3) := by decide +kernel
theorem dX9_odds_231 : decode cX9_odds 231 = .ok (.iload 4, 2) := by decide +kernel
theorem dX9_odds_233 : decode cX9_odds 233 = .ok (.iload 5, 2) := by decide +kernel
theorem dX9_odds_235 : decode cX9_odds 235 = .ok (.idiv, 1) := by decide +kernel
theorem dX9_odds_236 : decode cX9_odds 236 = .ok (.ireturn, 1) := by decide +kernel
theorem dX9_mark_0 : decode cX9_mark 0 = .ok (.iload_n 1, 1) := by decide +kernel
theorem dX9_mark_1 : decode cX9_mark 1 = .ok (.iconst 0, 1) := by decide +kernel
theorem dX9_mark_2 : decode cX9_mark 2 = .ok (.iconst 5, 1) := by decide +kernel
theorem dX9_mark_3 : decode cX9_mark 3 = .ok (.invokestatic 54, 3) := by decide +kernel
theorem dX9_mark_6 : decode cX9_mark 6 = .ok (.ifCond .eq 11, 3) := by decide +kernel
theorem dX9_mark_9 : decode cX9_mark 9 = .ok (.aload_n 0, 1) := by decide +kernel
theorem dX9_mark_10 : decode cX9_mark 10 = .ok (.iload_n 2, 1) := by decide +kernel
theorem dX9_mark_11 : decode cX9_mark 11 = .ok (.invokevirtual 104, 3) := by decide +kernel
theorem dX9_mark_14 : decode cX9_mark 14 = .ok (.ifCond .ne 6, 3) := by decide +kernel
theorem dX9_mark_17 : decode cX9_mark 17 = .ok (.ldc 164, 2) := by decide +kernel
theorem dX9_mark_19 : decode cX9_mark 19 = .ok (.ireturn, 1) := by decide +kernel
theorem dX9_mark_20 : decode cX9_mark 20 = .ok (.aload_n 0, 1) := by decide +kernel
theorem dX9_mark_21 : decode cX9_mark 21 = .ok (.dup, 1) := by decide +kernel
theorem dX9_mark_22 : decode cX9_mark 22 = .ok (.getfield 165, 3) := by decide +kernel
theorem dX9_mark_25 : decode cX9_mark 25 = .ok (.iload_n 1, 1) := by decide +kernel
theorem dX9_mark_26 : decode cX9_mark 26 = .ok (.ifCond .ne 7, 3) := by decide +kernel
theorem dX9_mark_29 : decode cX9_mark 29 = .ok (.lconst 1, 1) := by decide +kernel
theorem dX9_mark_30 : decode cX9_mark 30 = .ok (.goto 50, 3) := by decide +kernel
theorem dX9_mark_33 : decode cX9_mark 33 = .ok (.iload_n 1, 1) := by decide +kernel
theorem dX9_mark_34 : decode cX9_mark 34 = .ok (.iconst 1, 1) := by decide +kernel
theorem dX9_mark_35 : decode cX9_mark 35 = .ok (.if_icmp .ne 9, 3) := by decide +kernel
theorem dX9_mark_38 : decode cX9_mark 38 = .ok (.ldc2_w 169, 3) := by decide +kernel
theorem dX9_mark_41 : decode cX9_mark 41 = .ok (.goto 39, 3) := by decide +kernel
theorem dX9_mark_44 : decode cX9_mark 44 = .ok (.iload_n 1, 1) := by decide +kernel
theorem dX9_mark_45 : decode cX9_mark 45 = .ok (.iconst 2, 1) := by decide +kernel
theorem dX9_mark_46 : decode cX9_mark 46 = .ok (.if_icmp .ne 9, 3) := by decide +kernel
theorem dX9_mark_49 : decode cX9_mark 49 = .ok (.ldc2_w 171, 3) := by decide +kernel
theorem dX9_mark_52 : decode cX9_mark 52 = .ok (.goto 28, 3) := by decide +kernel
theorem dX9_mark_55 : decode cX9_mark 55 = .ok (.iload_n 1, 1) := by decide +kernel
theorem dX9_mark_56 : decode cX9_mark 56 = .ok (.iconst 3, 1) := by decide +kernel
theorem dX9_mark_57 : decode cX9_mark 57 = .ok (.if_icmp .ne 9, 3) := by decide +kernel
theorem dX9_mark_60 : decode cX9_mark 60 = .ok (.ldc2_w 173, 3) := by decide +kernel
theorem dX9_mark_63 : decode cX9_mark 63 = .ok (.goto 17, 3) := by decide +kernel
theorem dX9_mark_66 : decode cX9_mark 66 = .ok (.iload_n 1, 1) := by decide +kernel
theorem dX9_mark_67 : decode cX9_mark 67 = .ok (.iconst 4, 1) := by decide +kernel
theorem dX9_mark_68 : decode cX9_mark 68 = .ok (.if_icmp .ne 9, 3) := by decide +kernel
theorem dX9_mark_71 : decode cX9_mark 71 = .ok (.ldc2_w 175, 3) := by decide +kernel
theorem dX9_mark_74 : decode cX9_mark 74 = .ok (.goto 6, 3) := by decide +kernel
theorem dX9_mark_77 : decode cX9_mark 77 = .ok (.ldc2_w 177, 3) := by decide +kernel
theorem dX9_mark_80 : decode cX9_mark 80 = .ok (.ladd, 1) := by decide +kernel
theorem dX9_mark_81 : decode cX9_mark 81 = .ok (.putfield 165, 3) := by decide +kernel
theorem dX9_mark_84 : decode cX9_mark 84 = .ok (.aload_n 0, 1) := by decide +kernel
theorem dX9_mark_85 : decode cX9_mark 85 = .ok (.getfield 19, 3) := by decide +kernel
theorem dX9_mark_88 : decode cX9_mark 88 = .ok (.iload_n 2, 1) := by decide +kernel
theorem dX9_mark_89 : decode cX9_mark 89 = .ok (.iaload, 1) := by decide +kernel
theorem dX9_mark_90 : decode cX9_mark 90 = .ok (.aload_n 0, 1) := by decide +kernel
theorem dX9_mark_91 : decode cX9_mark 91 = .ok (.getfield 13, 3) := by decide +kernel
theorem dX9_mark_94 : decode cX9_mark 94 = .ok (.bipush 20, 2) := by decide +kernel
theorem dX9_mark_96 : decode cX9_mark 96 = .ok (.iload_n 2, 1) := by decide +kernel
theorem dX9_mark_97 : decode cX9_mark 97 = .ok (.iadd, 1) := by decide +kernel
theorem dX9_mark_98 : decode cX9_mark 98 = .ok (.iaload, 1) := by decide +kernel
theorem dX9_mark_99 : decode cX9_mark 99 = .ok (.iadd, 1) := by decide +kernel
theorem dX9_mark_100 : decode cX9_mark 100 = .ok (.istore_n 3, 1) := by decide +kernel
theorem dX9_mark_101 : decode cX9_mark 101 = .ok (.aload_n 0, 1) := by decide +kernel
theorem dX9_mark_102 : decode cX9_mark 102 = .ok (.getfield 19, 3) := by decide +kernel
theorem dX9_mark_105 : decode cX9_mark 105 = .ok (.iload_n 2, 1) := by decide +kernel
theorem dX9_mark_106 : decode cX9_mark 106 = .ok (.iaload, 1) := by decide +kernel
theorem dX9_mark_107 : decode cX9_mark 107 = .ok (.aload_n 0, 1) := by decide +kernel
theorem dX9_mark_108 : decode cX9_mark 108 = .ok (.getfield 19, 3) := by decide +kernel
theorem dX9_mark_111 : decode cX9_mark 111 = .ok (.bipush 7, 2) := by decide +kernel
theorem dX9_mark_113 : decode cX9_mark 113 = .ok (.iload_n 2, 1) := by decide +kernel
theorem dX9_mark_114 : decode cX9_mark 114 = .ok (.iadd, 1) := by decide +kernel
theorem dX9_mark_115 : decode cX9_mark 115 = .ok (.iaload, 1) := by decide +kernel
theorem dX9_mark_116 : decode cX9_mark 116 = .ok (.isub, 1) := by decide +kernel
theorem dX9_mark_117 : decode cX9_mark 117 = .ok (.istore 4, 2) := by decide +kernel
theorem dX9_mark_119 : decode cX9_mark 119 = .ok (.iload_n 1, 1) := by decide +kernel
theorem dX9_mark_120 : decode cX9_mark 120 = .ok (.ifCond .ne 12, 3) := by decide +kernel
theorem dX9_mark_123 : decode cX9_mark 123 = .ok (.aload_n 0, 1) := by decide +kernel
theorem dX9_mark_124 : decode cX9_mark 124 = .ok (.getfield 19, 3) := by decide +kernel
theorem dX9_mark_127 : decode cX9_mark 127 = .ok (.iload_n 2, 1) := by decide +kernel
theorem dX9_mark_128 : decode cX9_mark 128 = .ok (.iaload, 1) := by decide +kernel
theorem dX9_mark_129 : decode cX9_mark 129 = .ok (.goto 67, 3) := by decide +kernel
theorem dX9_mark_132 : decode cX9_mark 132 = .ok (.iload_n 1, 1) := by decide +kernel
theorem dX9_mark_133 : decode cX9_mark 133 = .ok (.iconst 1, 1) := by decide +kernel
theorem dX9_mark_134 : decode cX9_mark 134 = .ok (.if_icmp .ne 7, 3) := by decide +kernel
theorem dX9_mark_137 : decode cX9_mark 137 = .ok (.iload_n 3, 1) := by decide +kernel
theorem dX9_mark_138 : decode cX9_mark 138 = .ok (.goto 58, 3) := by decide +kernel
theorem dX9_mark_141 : decode cX9_mark 141 = .ok (.iload_n 1, 1) := by decide +kernel
theorem dX9_mark_142 : decode cX9_mark 142 = .ok (.iconst 2, 1) := by decide +kernel
theorem dX9_mark_143 : decode cX9_mark 143 = .ok (.if_icmp .ne 8, 3) := by decide +kernel
theorem dX9_mark_146 : decode cX9_mark 146 = .ok (.iload 4, 2) := by decide +kernel
theorem dX9_mark_148 : decode cX9_mark 148 = .ok (.goto 48, 3) := by decide +kernel
theorem dX9_mark_151 : decode cX9_mark 151 = .ok (.iload_n 1, 1) := by decide +kernel
theorem dX9_mark_152 : decode cX9_mark 152 = .ok (.iconst 3, 1) := by decide +kernel
theorem dX9_mark_153 : decode cX9_mark 153 = .ok (.if_icmp .ne 9, 3) := by decide +kernel
theorem dX9_mark_156 : decode cX9_mark 156 = .ok (.iconst 2, 1) := by decide +kernel
theorem dX9_mark_157 : decode cX9_mark 157 = .ok (.iload_n 3, 1) := by decide +kernel
theorem dX9_mark_158 : decode cX9_mark 158 = .ok (.imul, 1) := by decide +kernel
theorem dX9_mark_159 : decode cX9_mark 159 = .ok (.goto 37, 3) := by decide +kernel
theorem dX9_mark_162 : decode cX9_mark 162 = .ok (.iload_n 1, 1) := by decide +kernel
theorem dX9_mark_163 : decode cX9_mark 163 = .ok (.iconst 4, 1) := by decide +kernel
theorem dX9_mark_164 : decode cX9_mark 164 = .ok (.if_icmp .ne 18, 3) := by decide +kernel
theorem dX9_mark_167 : decode cX9_mark 167 = .ok (.iload 4, 2) := by decide +kernel
theorem dX9_mark_169 : decode cX9_mark 169 = .ok (.aload_n 0, 1) := by decide +kernel
theorem dX9_mark_170 : decode cX9_mark 170 = .ok (.getfield 13, 3) := by decide +kernel
theorem dX9_mark_173 : decode cX9_mark 173 = .ok (.bipush 27, 2) := by decide +kernel
theorem dX9_mark_175 : decode cX9_mark 175 = .ok (.iload_n 2, 1) := by decide +kernel
theorem dX9_mark_176 : decode cX9_mark 176 = .ok (.iadd, 1) := by decide +kernel
theorem dX9_mark_177 : decode cX9_mark 177 = .ok (.iaload, 1) := by decide +kernel
theorem dX9_mark_178 : decode cX9_mark 178 = .ok (.iadd, 1) := by decide +kernel
theorem dX9_mark_179 : decode cX9_mark 179 = .ok (.goto 17, 3) := by decide +kernel
theorem dX9_mark_182 : decode cX9_mark 182 = .ok (.aload_n 0, 1) := by decide +kernel
theorem dX9_mark_183 : decode cX9_mark 183 = .ok (.getfield 19, 3) := by decide +kernel
theorem dX9_mark_186 : decode cX9_mark 186 = .ok (.iload_n 2, 1) := by decide +kernel
theorem dX9_mark_187 : decode cX9_mark 187 = .ok (.iaload, 1) := by decide +kernel
theorem dX9_mark_188 : decode cX9_mark 188 = .ok (.aload_n 0, 1) := by decide +kernel
theorem dX9_mark_189 : decode cX9_mark 189 = .ok (.getfield 19, 3) := by decide +kernel
theorem dX9_mark_192 : decode cX9_mark 192 = .ok (.bipush 64, 2) := by decide +kernel
theorem dX9_mark_194 : decode cX9_mark 194 = .ok (.iaload, 1) := by decide +kernel
theorem dX9_mark_195 : decode cX9_mark 195 = .ok (.iadd, 1) := by decide +kernel
theorem dX9_mark_196 : decode cX9_mark 196 = .ok (.ireturn, 1) := by decide +kernel
theorem dX9_keep_0 : decode cX9_keep 0 = .ok (.iload_n 1, 1) := by decide +kernel
theorem dX9_keep_1 : decode cX9_keep 1 = .ok (.iconst 0, 1) := by decide +kernel
theorem dX9_keep_2 : decode cX9_keep 2 = .ok (.iconst 1, 1) := by decide +kernel
theorem dX9_keep_3 : decode cX9_keep 3 = .ok (.invokestatic 54, 3) := by decide +kernel
theorem dX9_keep_6 : decode cX9_keep 6 = .ok (.ifCond .ne 5, 3) := by decide +kernel
theorem dX9_keep_9 : decode cX9_keep 9 = .ok (.iconst (-1), 1) := by decide +kernel
theorem dX9_keep_10 : decode cX9_keep 10 = .ok (.ireturn, 1) := by decide +kernel
theorem dX9_keep_11 : decode cX9_keep 11 = .ok (.iconst 0, 1) := by decide +kernel
theorem dX9_keep_12 : decode cX9_keep 12 = .ok (.istore_n 2, 1) := by decide +kernel
theorem dX9_keep_13 : decode cX9_keep 13 = .ok (.iload_n 2, 1) := by decide +kernel
theorem dX9_keep_14 : decode cX9_keep 14 = .ok (.sipush 716, 3) := by decide +kernel
theorem dX9_keep_17 : decode cX9_keep 17 = .ok (.if_icmp .ge 27, 3) := by decide +kernel
theorem dX9_keep_20 : decode cX9_keep 20 = .ok (.aload_n 0, 1) := by decide +kernel
theorem dX9_keep_21 : decode cX9_keep 21 = .ok (.getfield 22, 3) := by decide +kernel
theorem dX9_keep_24 : decode cX9_keep 24 = .ok (.sipush 716, 3) := by decide +kernel
theorem dX9_keep_27 : decode cX9_keep 27 = .ok (.iload_n 1, 1) := by decide +kernel
theorem dX9_keep_28 : decode cX9_keep 28 = .ok (.imul, 1) := by decide +kernel
theorem dX9_keep_29 : decode cX9_keep 29 = .ok (.iload_n 2, 1) := by decide +kernel
theorem dX9_keep_30 : decode cX9_keep 30 = .ok (.iadd, 1) := by decide +kernel
theorem dX9_keep_31 : decode cX9_keep 31 = .ok (.aload_n 0, 1) := by decide +kernel
theorem dX9_keep_32 : decode cX9_keep 32 = .ok (.getfield 19, 3) := by decide +kernel
theorem dX9_keep_35 : decode cX9_keep 35 = .ok (.iload_n 2, 1) := by decide +kernel
theorem dX9_keep_36 : decode cX9_keep 36 = .ok (.iaload, 1) := by decide +kernel
theorem dX9_keep_37 : decode cX9_keep 37 = .ok (.iastore, 1) := by decide +kernel
theorem dX9_keep_38 : decode cX9_keep 38 = .ok (.iinc 2 1, 3) := by decide +kernel
theorem dX9_keep_41 : decode cX9_keep 41 = .ok (.goto (-28), 3) := by decide +kernel
theorem dX9_keep_44 : decode cX9_keep 44 = .ok (.aload_n 0, 1) := by decide +kernel
theorem dX9_keep_45 : decode cX9_keep 45 = .ok (.getfield 25, 3) := by decide +kernel
theorem dX9_keep_48 : decode cX9_keep 48 = .ok (.iload_n 1, 1) := by decide +kernel
theorem dX9_keep_49 : decode cX9_keep 49 = .ok (.iconst 1, 1) := by decide +kernel
theorem dX9_keep_50 : decode cX9_keep 50 = .ok (.bastore, 1) := by decide +kernel
theorem dX9_keep_51 : decode cX9_keep 51 = .ok (.aload_n 0, 1) := by decide +kernel
theorem dX9_keep_52 : decode cX9_keep 52 = .ok (.getfield 19, 3) := by decide +kernel
theorem dX9_keep_55 : decode cX9_keep 55 = .ok (.bipush 64, 2) := by decide +kernel
theorem dX9_keep_57 : decode cX9_keep 57 = .ok (.iaload, 1) := by decide +kernel
theorem dX9_keep_58 : decode cX9_keep 58 = .ok (.ireturn, 1) := by decide +kernel
theorem dX9_back_0 : decode cX9_back 0 = .ok (.iload_n 1, 1) := by decide +kernel
theorem dX9_back_1 : decode cX9_back 1 = .ok (.iconst 0, 1) := by decide +kernel
theorem dX9_back_2 : decode cX9_back 2 = .ok (.iconst 1, 1) := by decide +kernel
theorem dX9_back_3 : decode cX9_back 3 = .ok (.invokestatic 54, 3) := by decide +kernel
theorem dX9_back_6 : decode cX9_back 6 = .ok (.ifCond .ne 5, 3) := by decide +kernel
theorem dX9_back_9 : decode cX9_back 9 = .ok (.iconst (-1), 1) := by decide +kernel
theorem dX9_back_10 : decode cX9_back 10 = .ok (.ireturn, 1) := by decide +kernel
theorem dX9_back_11 : decode cX9_back 11 = .ok (.aload_n 0, 1) := by decide +kernel
theorem dX9_back_12 : decode cX9_back 12 = .ok (.getfield 25, 3) := by decide +kernel
theorem dX9_back_15 : decode cX9_back 15 = .ok (.iload_n 1, 1) := by decide +kernel
theorem dX9_back_16 : decode cX9_back 16 = .ok (.baload, 1) := by decide +kernel
theorem dX9_back_17 : decode cX9_back 17 = .ok (.ifCond .ne 6, 3) := by decide +kernel
theorem dX9_back_20 : decode cX9_back 20 = .ok (.bipush (-2), 2) := by decide +kernel
theorem dX9_back_22 : decode cX9_back 22 = .ok (.ireturn, 1) := by decide +kernel
theorem dX9_back_23 : decode cX9_back 23 = .ok (.iconst 0, 1) := by decide +kernel
theorem dX9_back_24 : decode cX9_back 24 = .ok (.istore_n 2, 1) := by decide +kernel
theorem dX9_back_25 : decode cX9_back 25 = .ok (.iload_n 2, 1) := by decide +kernel
theorem dX9_back_26 : decode cX9_back 26 = .ok (.sipush 716, 3) := by decide +kernel
theorem dX9_back_29 : decode cX9_back 29 = .ok (.if_icmp .ge 27, 3) := by decide +kernel
theorem dX9_back_32 : decode cX9_back 32 = .ok (.aload_n 0, 1) := by decide +kernel
theorem dX9_back_33 : decode cX9_back 33 = .ok (.getfield 19, 3) := by decide +kernel
theorem dX9_back_36 : decode cX9_back 36 = .ok (.iload_n 2, 1) := by decide +kernel
theorem dX9_back_37 : decode cX9_back 37 = .ok (.aload_n 0, 1) := by decide +kernel
theorem dX9_back_38 : decode cX9_back 38 = .ok (.getfield 22, 3) := by decide +kernel
theorem dX9_back_41 : decode cX9_back 41 = .ok (.sipush 716, 3) := by decide +kernel
theorem dX9_back_44 : decode cX9_back 44 = .ok (.iload_n 1, 1) := by decide +kernel
theorem dX9_back_45 : decode cX9_back 45 = .ok (.imul, 1) := by decide +kernel
theorem dX9_back_46 : decode cX9_back 46 = .ok (.iload_n 2, 1) := by decide +kernel
theorem dX9_back_47 : decode cX9_back 47 = .ok (.iadd, 1) := by decide +kernel
theorem dX9_back_48 : decode cX9_back 48 = .ok (.iaload, 1) := by decide +kernel
theorem dX9_back_49 : decode cX9_back 49 = .ok (.iastore, 1) := by decide +kernel
theorem dX9_back_50 : decode cX9_back 50 = .ok (.iinc 2 1, 3) := by decide +kernel
theorem dX9_back_53 : decode cX9_back 53 = .ok (.goto (-28), 3) := by decide +kernel
theorem dX9_back_56 : decode cX9_back 56 = .ok (.aload_n 0, 1) := by decide +kernel
theorem dX9_back_57 : decode cX9_back 57 = .ok (.getfield 19, 3) := by decide +kernel
theorem dX9_back_60 : decode cX9_back 60 = .ok (.bipush 64, 2) := by decide +kernel
theorem dX9_back_62 : decode cX9_back 62 = .ok (.iaload, 1) := by decide +kernel
theorem dX9_back_63 : decode cX9_back 63 = .ok (.ireturn, 1) := by decide +kernel
theorem dX9_count_0 : decode cX9_count 0 = .ok (.iload_n 1, 1) := by decide +kernel
theorem dX9_count_1 : decode cX9_count 1 = .ok (.tableswitch 80 0 5 #[39, 46, 53, 60, 67, 75], 39) := by decide +kernel
theorem dX9_count_40 : decode cX9_count 40 = .ok (.aload_n 0, 1) := by decide +kernel
theorem dX9_count_41 : decode cX9_count 41 = .ok (.getfield 13, 3) := by decide +kernel
theorem dX9_count_44 : decode cX9_count 44 = .ok (.iconst 0, 1) := by decide +kernel
theorem dX9_count_45 : decode cX9_count 45 = .ok (.iaload, 1) := by decide +kernel
theorem dX9_count_46 : decode cX9_count 46 = .ok (.ireturn, 1) := by decide +kernel
theorem dX9_count_47 : decode cX9_count 47 = .ok (.aload_n 0, 1) := by decide +kernel
theorem dX9_count_48 : decode cX9_count 48 = .ok (.getfield 13, 3) := by decide +kernel
theorem dX9_count_51 : decode cX9_count 51 = .ok (.iconst 1, 1) := by decide +kernel
theorem dX9_count_52 : decode cX9_count 52 = .ok (.iaload, 1) := by decide +kernel
theorem dX9_count_53 : decode cX9_count 53 = .ok (.ireturn, 1) := by decide +kernel
theorem dX9_count_54 : decode cX9_count 54 = .ok (.aload_n 0, 1) := by decide +kernel
theorem dX9_count_55 : decode cX9_count 55 = .ok (.getfield 13, 3) := by decide +kernel
theorem dX9_count_58 : decode cX9_count 58 = .ok (.iconst 2, 1) := by decide +kernel
theorem dX9_count_59 : decode cX9_count 59 = .ok (.iaload, 1) := by decide +kernel
theorem dX9_count_60 : decode cX9_count 60 = .ok (.ireturn, 1) := by decide +kernel
theorem dX9_count_61 : decode cX9_count 61 = .ok (.aload_n 0, 1) := by decide +kernel
theorem dX9_count_62 : decode cX9_count 62 = .ok (.getfield 13, 3) := by decide +kernel
theorem dX9_count_65 : decode cX9_count 65 = .ok (.iconst 3, 1) := by decide +kernel
theorem dX9_count_66 : decode cX9_count 66 = .ok (.iaload, 1) := by decide +kernel
theorem dX9_count_67 : decode cX9_count 67 = .ok (.ireturn, 1) := by decide +kernel
theorem dX9_count_68 : decode cX9_count 68 = .ok (.aload_n 0, 1) := by decide +kernel
theorem dX9_count_69 : decode cX9_count 69 = .ok (.getfield 19, 3) := by decide +kernel
theorem dX9_count_72 : decode cX9_count 72 = .ok (.bipush 65, 2) := by decide +kernel
theorem dX9_count_74 : decode cX9_count 74 = .ok (.iaload, 1) := by decide +kernel
theorem dX9_count_75 : decode cX9_count 75 = .ok (.ireturn, 1) := by decide +kernel
theorem dX9_count_76 : decode cX9_count 76 = .ok (.aload_n 0, 1) := by decide +kernel
theorem dX9_count_77 : decode cX9_count 77 = .ok (.getfield 58, 3) := by decide +kernel
theorem dX9_count_80 : decode cX9_count 80 = .ok (.ireturn, 1) := by decide +kernel
theorem dX9_count_81 : decode cX9_count 81 = .ok (.iconst (-1), 1) := by decide +kernel
theorem dX9_count_82 : decode cX9_count 82 = .ok (.ireturn, 1) := by decide +kernel
theorem dX9_trace_0 : decode cX9_trace 0 = .ok (.aload_n 0, 1) := by decide +kernel
theorem dX9_trace_1 : decode cX9_trace 1 = .ok (.getfield 165, 3) := by decide +kernel
theorem dX9_trace_4 : decode cX9_trace 4 = .ok (.lreturn, 1) := by decide +kernel
end
section
theorem dL_law_0 : decode cL_law 0 = .ok (.new 7, 3) := by decide +kernel
theorem dL_law_3 : decode cL_law 3 = .ok (.dup, 1) := by decide +kernel
theorem dL_law_4 : decode cL_law 4 = .ok (.invokespecial 9, 3) := by decide +kernel
theorem dL_law_7 : decode cL_law 7 = .ok (.astore_n 1, 1) := by decide +kernel
theorem dL_law_8 : decode cL_law 8 = .ok (.new 10, 3) := by decide +kernel
theorem dL_law_11 : decode cL_law 11 = .ok (.dup, 1) := by decide +kernel
theorem dL_law_12 : decode cL_law 12 = .ok (.invokespecial 12, 3) := by decide +kernel
theorem dL_law_15 : decode cL_law 15 = .ok (.astore_n 2, 1) := by decide +kernel
theorem dL_law_16 : decode cL_law 16 = .ok (.iconst 0, 1) := by decide +kernel
theorem dL_law_17 : decode cL_law 17 = .ok (.istore_n 3, 1) := by decide +kernel
theorem dL_law_18 : decode cL_law 18 = .ok (.iload_n 3, 1) := by decide +kernel
theorem dL_law_19 : decode cL_law 19 = .ok (.aload_n 0, 1) := by decide +kernel
theorem dL_law_20 : decode cL_law 20 = .ok (.arraylength, 1) := by decide +kernel
theorem dL_law_21 : decode cL_law 21 = .ok (.iconst 5, 1) := by decide +kernel
theorem dL_law_22 : decode cL_law 22 = .ok (.isub, 1) := by decide +kernel
theorem dL_law_23 : decode cL_law 23 = .ok (.if_icmp .gt 874, 3) := by decide +kernel
theorem dL_law_26 : decode cL_law 26 = .ok (.aload_n 0, 1) := by decide +kernel
theorem dL_law_27 : decode cL_law 27 = .ok (.iload_n 3, 1) := by decide +kernel
theorem dL_law_28 : decode cL_law 28 = .ok (.iaload, 1) := by decide +kernel
theorem dL_law_29 : decode cL_law 29 = .ok (.bipush 31, 2) := by decide +kernel
theorem dL_law_31 : decode cL_law 31 = .ok (.iand, 1) := by decide +kernel
theorem dL_law_32 : decode cL_law 32 = .ok (.tableswitch 859 0 25 #[120, 143, 156, 169, 202, 235, 268, 301, 344, 367, 410, 433, 446, 459, 482, 525, 558, 591, 624, 657, 710, 743, 776, 799, 822, 845], 120) := by decide +kernel
theorem dL_law_152 : decode cL_law 152 = .ok (.aload_n 1, 1) := by decide +kernel
theorem dL_law_153 : decode cL_law 153 = .ok (.aload_n 0, 1) := by decide +kernel
theorem dL_law_154 : decode cL_law 154 = .ok (.iload_n 3, 1) := by decide +kernel
theorem dL_law_155 : decode cL_law 155 = .ok (.iconst 1, 1) := by decide +kernel
theorem dL_law_156 : decode cL_law 156 = .ok (.iadd, 1) := by decide +kernel
theorem dL_law_157 : decode cL_law 157 = .ok (.iaload, 1) := by decide +kernel
theorem dL_law_158 : decode cL_law 158 = .ok (.invokevirtual 13, 3) := by decide +kernel
theorem dL_law_161 : decode cL_law 161 = .ok (.aload_n 2, 1) := by decide +kernel
theorem dL_law_162 : decode cL_law 162 = .ok (.aload_n 0, 1) := by decide +kernel
theorem dL_law_163 : decode cL_law 163 = .ok (.iload_n 3, 1) := by decide +kernel
theorem dL_law_164 : decode cL_law 164 = .ok (.iconst 1, 1) := by decide +kernel
theorem dL_law_165 : decode cL_law 165 = .ok (.iadd, 1) := by decide +kernel
theorem dL_law_166 : decode cL_law 166 = .ok (.iaload, 1) := by decide +kernel
theorem dL_law_167 : decode cL_law 167 = .ok (.invokevirtual 17, 3) := by decide +kernel
theorem dL_law_170 : decode cL_law 170 = .ok (.if_icmp .eq 721, 3) := by decide +kernel
theorem dL_law_173 : decode cL_law 173 = .ok (.iconst 0, 1) := by decide +kernel
theorem dL_law_174 : decode cL_law 174 = .ok (.ireturn, 1) := by decide +kernel
theorem dL_law_175 : decode cL_law 175 = .ok (.aload_n 1, 1) := by decide +kernel
theorem dL_law_176 : decode cL_law 176 = .ok (.invokevirtual 18, 3) := by decide +kernel
theorem dL_law_179 : decode cL_law 179 = .ok (.aload_n 2, 1) := by decide +kernel
theorem dL_law_180 : decode cL_law 180 = .ok (.invokevirtual 22, 3) := by decide +kernel
theorem dL_law_183 : decode cL_law 183 = .ok (.if_icmp .eq 708, 3) := by decide +kernel
theorem dL_law_186 : decode cL_law 186 = .ok (.iconst 0, 1) := by decide +kernel
theorem dL_law_187 : decode cL_law 187 = .ok (.ireturn, 1) := by decide +kernel
theorem dL_law_188 : decode cL_law 188 = .ok (.aload_n 1, 1) := by decide +kernel
theorem dL_law_189 : decode cL_law 189 = .ok (.invokevirtual 23, 3) := by decide +kernel
theorem dL_law_192 : decode cL_law 192 = .ok (.aload_n 2, 1) := by decide +kernel
theorem dL_law_193 : decode cL_law 193 = .ok (.invokevirtual 26, 3) := by decide +kernel
theorem dL_law_196 : decode cL_law 196 = .ok (.if_icmp .eq 695, 3) := by decide +kernel
theorem dL_law_199 : decode cL_law 199 = .ok (.iconst 0, 1) := by decide +kernel
theorem dL_law_200 : decode cL_law 200 = .ok (.ireturn, 1) := by decide +kernel
theorem dL_law_201 : decode cL_law 201 = .ok (.aload_n 1, 1) := by decide +kernel
theorem dL_law_202 : decode cL_law 202 = .ok (.aload_n 0, 1) := by decide +kernel
theorem dL_law_203 : decode cL_law 203 = .ok (.iload_n 3, 1) := by decide +kernel
theorem dL_law_204 : decode cL_law 204 = .ok (.iconst 1, 1) := by decide +kernel
theorem dL_law_205 : decode cL_law 205 = .ok (.iadd, 1) := by decide +kernel
theorem dL_law_206 : decode cL_law 206 = .ok (.iaload, 1) := by decide +kernel
theorem dL_law_207 : decode cL_law 207 = .ok (.aload_n 0, 1) := by decide +kernel
theorem dL_law_208 : decode cL_law 208 = .ok (.iload_n 3, 1) := by decide +kernel
theorem dL_law_209 : decode cL_law 209 = .ok (.iconst 2, 1) := by decide +kernel
theorem dL_law_210 : decode cL_law 210 = .ok (.iadd, 1) := by decide +kernel
theorem dL_law_211 : decode cL_law 211 = .ok (.iaload, 1) := by decide +kernel
theorem dL_law_212 : decode cL_law 212 = .ok (.invokevirtual 27, 3) := by decide +kernel
theorem dL_law_215 : decode cL_law 215 = .ok (.aload_n 2, 1) := by decide +kernel
theorem dL_law_216 : decode cL_law 216 = .ok (.aload_n 0, 1) := by decide +kernel
theorem dL_law_217 : decode cL_law 217 = .ok (.iload_n 3, 1) := by decide +kernel
theorem dL_law_218 : decode cL_law 218 = .ok (.iconst 1, 1) := by decide +kernel
theorem dL_law_219 : decode cL_law 219 = .ok (.iadd, 1) := by decide +kernel
theorem dL_law_220 : decode cL_law 220 = .ok (.iaload, 1) := by decide +kernel
theorem dL_law_221 : decode cL_law 221 = .ok (.aload_n 0, 1) := by decide +kernel
theorem dL_law_222 : decode cL_law 222 = .ok (.iload_n 3, 1) := by decide +kernel
theorem dL_law_223 : decode cL_law 223 = .ok (.iconst 2, 1) := by decide +kernel
theorem dL_law_224 : decode cL_law 224 = .ok (.iadd, 1) := by decide +kernel
theorem dL_law_225 : decode cL_law 225 = .ok (.iaload, 1) := by decide +kernel
theorem dL_law_226 : decode cL_law 226 = .ok (.invokevirtual 31, 3) := by decide +kernel
theorem dL_law_229 : decode cL_law 229 = .ok (.if_icmp .eq 662, 3) := by decide +kernel
theorem dL_law_232 : decode cL_law 232 = .ok (.iconst 0, 1) := by decide +kernel
theorem dL_law_233 : decode cL_law 233 = .ok (.ireturn, 1) := by decide +kernel
theorem dL_law_234 : decode cL_law 234 = .ok (.aload_n 1, 1) := by decide +kernel
theorem dL_law_235 : decode cL_law 235 = .ok (.aload_n 0, 1) := by decide +kernel
theorem dL_law_236 : decode cL_law 236 = .ok (.iload_n 3, 1) := by decide +kernel
theorem dL_law_237 : decode cL_law 237 = .ok (.iconst 1, 1) := by decide +kernel
theorem dL_law_238 : decode cL_law 238 = .ok (.iadd, 1) := by decide +kernel
theorem dL_law_239 : decode cL_law 239 = .ok (.iaload, 1) := by decide +kernel
theorem dL_law_240 : decode cL_law 240 = .ok (.aload_n 0, 1) := by decide +kernel
theorem dL_law_241 : decode cL_law 241 = .ok (.iload_n 3, 1) := by decide +kernel
theorem dL_law_242 : decode cL_law 242 = .ok (.iconst 2, 1) := by decide +kernel
theorem dL_law_243 : decode cL_law 243 = .ok (.iadd, 1) := by decide +kernel
theorem dL_law_244 : decode cL_law 244 = .ok (.iaload, 1) := by decide +kernel
theorem dL_law_245 : decode cL_law 245 = .ok (.invokevirtual 32, 3) := by decide +kernel
theorem dL_law_248 : decode cL_law 248 = .ok (.aload_n 2, 1) := by decide +kernel
theorem dL_law_249 : decode cL_law 249 = .ok (.aload_n 0, 1) := by decide +kernel
theorem dL_law_250 : decode cL_law 250 = .ok (.iload_n 3, 1) := by decide +kernel
theorem dL_law_251 : decode cL_law 251 = .ok (.iconst 1, 1) := by decide +kernel
theorem dL_law_252 : decode cL_law 252 = .ok (.iadd, 1) := by decide +kernel
theorem dL_law_253 : decode cL_law 253 = .ok (.iaload, 1) := by decide +kernel
theorem dL_law_254 : decode cL_law 254 = .ok (.aload_n 0, 1) := by decide +kernel
theorem dL_law_255 : decode cL_law 255 = .ok (.iload_n 3, 1) := by decide +kernel
theorem dL_law_256 : decode cL_law 256 = .ok (.iconst 2, 1) := by decide +kernel
theorem dL_law_257 : decode cL_law 257 = .ok (.iadd, 1) := by decide +kernel
theorem dL_law_258 : decode cL_law 258 = .ok (.iaload, 1) := by decide +kernel
theorem dL_law_259 : decode cL_law 259 = .ok (.invokevirtual 35, 3) := by decide +kernel
theorem dL_law_262 : decode cL_law 262 = .ok (.if_icmp .eq 629, 3) := by decide +kernel
theorem dL_law_265 : decode cL_law 265 = .ok (.iconst 0, 1) := by decide +kernel
theorem dL_law_266 : decode cL_law 266 = .ok (.ireturn, 1) := by decide +kernel
theorem dL_law_267 : decode cL_law 267 = .ok (.aload_n 1, 1) := by decide +kernel
theorem dL_law_268 : decode cL_law 268 = .ok (.aload_n 0, 1) := by decide +kernel
theorem dL_law_269 : decode cL_law 269 = .ok (.iload_n 3, 1) := by decide +kernel
theorem dL_law_270 : decode cL_law 270 = .ok (.iconst 1, 1) := by decide +kernel
theorem dL_law_271 : decode cL_law 271 = .ok (.iadd, 1) := by decide +kernel
theorem dL_law_272 : decode cL_law 272 = .ok (.iaload, 1) := by decide +kernel
theorem dL_law_273 : decode cL_law 273 = .ok (.aload_n 0, 1) := by decide +kernel
theorem dL_law_274 : decode cL_law 274 = .ok (.iload_n 3, 1) := by decide +kernel
theorem dL_law_275 : decode cL_law 275 = .ok (.iconst 2, 1) := by decide +kernel
theorem dL_law_276 : decode cL_law 276 = .ok (.iadd, 1) := by decide +kernel
theorem dL_law_277 : decode cL_law 277 = .ok (.iaload, 1) := by decide +kernel
theorem dL_law_278 : decode cL_law 278 = .ok (.invokevirtual 36, 3) := by decide +kernel
theorem dL_law_281 : decode cL_law 281 = .ok (.aload_n 2, 1) := by decide +kernel
theorem dL_law_282 : decode cL_law 282 = .ok (.aload_n 0, 1) := by decide +kernel
theorem dL_law_283 : decode cL_law 283 = .ok (.iload_n 3, 1) := by decide +kernel
theorem dL_law_284 : decode cL_law 284 = .ok (.iconst 1, 1) := by decide +kernel
theorem dL_law_285 : decode cL_law 285 = .ok (.iadd, 1) := by decide +kernel
theorem dL_law_286 : decode cL_law 286 = .ok (.iaload, 1) := by decide +kernel
theorem dL_law_287 : decode cL_law 287 = .ok (.aload_n 0, 1) := by decide +kernel
theorem dL_law_288 : decode cL_law 288 = .ok (.iload_n 3, 1) := by decide +kernel
theorem dL_law_289 : decode cL_law 289 = .ok (.iconst 2, 1) := by decide +kernel
theorem dL_law_290 : decode cL_law 290 = .ok (.iadd, 1) := by decide +kernel
theorem dL_law_291 : decode cL_law 291 = .ok (.iaload, 1) := by decide +kernel
theorem dL_law_292 : decode cL_law 292 = .ok (.invokevirtual 39, 3) := by decide +kernel
theorem dL_law_295 : decode cL_law 295 = .ok (.if_icmp .eq 596, 3) := by decide +kernel
theorem dL_law_298 : decode cL_law 298 = .ok (.iconst 0, 1) := by decide +kernel
theorem dL_law_299 : decode cL_law 299 = .ok (.ireturn, 1) := by decide +kernel
theorem dL_law_300 : decode cL_law 300 = .ok (.aload_n 1, 1) := by decide +kernel
theorem dL_law_301 : decode cL_law 301 = .ok (.aload_n 0, 1) := by decide +kernel
theorem dL_law_302 : decode cL_law 302 = .ok (.iload_n 3, 1) := by decide +kernel
theorem dL_law_303 : decode cL_law 303 = .ok (.iconst 1, 1) := by decide +kernel
theorem dL_law_304 : decode cL_law 304 = .ok (.iadd, 1) := by decide +kernel
theorem dL_law_305 : decode cL_law 305 = .ok (.iaload, 1) := by decide +kernel
theorem dL_law_306 : decode cL_law 306 = .ok (.aload_n 0, 1) := by decide +kernel
theorem dL_law_307 : decode cL_law 307 = .ok (.iload_n 3, 1) := by decide +kernel
theorem dL_law_308 : decode cL_law 308 = .ok (.iconst 2, 1) := by decide +kernel
theorem dL_law_309 : decode cL_law 309 = .ok (.iadd, 1) := by decide +kernel
theorem dL_law_310 : decode cL_law 310 = .ok (.iaload, 1) := by decide +kernel
theorem dL_law_311 : decode cL_law 311 = .ok (.invokevirtual 40, 3) := by decide +kernel
theorem dL_law_314 : decode cL_law 314 = .ok (.aload_n 2, 1) := by decide +kernel
theorem dL_law_315 : decode cL_law 315 = .ok (.aload_n 0, 1) := by decide +kernel
theorem dL_law_316 : decode cL_law 316 = .ok (.iload_n 3, 1) := by decide +kernel
theorem dL_law_317 : decode cL_law 317 = .ok (.iconst 1, 1) := by decide +kernel
theorem dL_law_318 : decode cL_law 318 = .ok (.iadd, 1) := by decide +kernel
theorem dL_law_319 : decode cL_law 319 = .ok (.iaload, 1) := by decide +kernel
theorem dL_law_320 : decode cL_law 320 = .ok (.aload_n 0, 1) := by decide +kernel
theorem dL_law_321 : decode cL_law 321 = .ok (.iload_n 3, 1) := by decide +kernel
theorem dL_law_322 : decode cL_law 322 = .ok (.iconst 2, 1) := by decide +kernel
theorem dL_law_323 : decode cL_law 323 = .ok (.iadd, 1) := by decide +kernel
theorem dL_law_324 : decode cL_law 324 = .ok (.iaload, 1) := by decide +kernel
theorem dL_law_325 : decode cL_law 325 = .ok (.invokevirtual 43, 3) := by decide +kernel
theorem dL_law_328 : decode cL_law 328 = .ok (.if_icmp .eq 563, 3) := by decide +kernel
theorem dL_law_331 : decode cL_law 331 = .ok (.iconst 0, 1) := by decide +kernel
theorem dL_law_332 : decode cL_law 332 = .ok (.ireturn, 1) := by decide +kernel
theorem dL_law_333 : decode cL_law 333 = .ok (.aload_n 1, 1) := by decide +kernel
theorem dL_law_334 : decode cL_law 334 = .ok (.aload_n 0, 1) := by decide +kernel
theorem dL_law_335 : decode cL_law 335 = .ok (.iload_n 3, 1) := by decide +kernel
theorem dL_law_336 : decode cL_law 336 = .ok (.iconst 1, 1) := by decide +kernel
theorem dL_law_337 : decode cL_law 337 = .ok (.iadd, 1) := by decide +kernel
theorem dL_law_338 : decode cL_law 338 = .ok (.iaload, 1) := by decide +kernel
theorem dL_law_339 : decode cL_law 339 = .ok (.aload_n 0, 1) := by decide +kernel
theorem dL_law_340 : decode cL_law 340 = .ok (.iload_n 3, 1) := by decide +kernel
theorem dL_law_341 : decode cL_law 341 = .ok (.iconst 2, 1) := by decide +kernel
theorem dL_law_342 : decode cL_law 342 = .ok (.iadd, 1) := by decide +kernel
theorem dL_law_343 : decode cL_law 343 = .ok (.iaload, 1) := by decide +kernel
theorem dL_law_344 : decode cL_law 344 = .ok (.aload_n 0, 1) := by decide +kernel
theorem dL_law_345 : decode cL_law 345 = .ok (.iload_n 3, 1) := by decide +kernel
theorem dL_law_346 : decode cL_law 346 = .ok (.iconst 3, 1) := by decide +kernel
theorem dL_law_347 : decode cL_law 347 = .ok (.iadd, 1) := by decide +kernel
theorem dL_law_348 : decode cL_law 348 = .ok (.iaload, 1) := by decide +kernel
theorem dL_law_349 : decode cL_law 349 = .ok (.invokevirtual 44, 3) := by decide +kernel
theorem dL_law_352 : decode cL_law 352 = .ok (.aload_n 2, 1) := by decide +kernel
theorem dL_law_353 : decode cL_law 353 = .ok (.aload_n 0, 1) := by decide +kernel
theorem dL_law_354 : decode cL_law 354 = .ok (.iload_n 3, 1) := by decide +kernel
theorem dL_law_355 : decode cL_law 355 = .ok (.iconst 1, 1) := by decide +kernel
theorem dL_law_356 : decode cL_law 356 = .ok (.iadd, 1) := by decide +kernel
theorem dL_law_357 : decode cL_law 357 = .ok (.iaload, 1) := by decide +kernel
theorem dL_law_358 : decode cL_law 358 = .ok (.aload_n 0, 1) := by decide +kernel
theorem dL_law_359 : decode cL_law 359 = .ok (.iload_n 3, 1) := by decide +kernel
theorem dL_law_360 : decode cL_law 360 = .ok (.iconst 2, 1) := by decide +kernel
theorem dL_law_361 : decode cL_law 361 = .ok (.iadd, 1) := by decide +kernel
theorem dL_law_362 : decode cL_law 362 = .ok (.iaload, 1) := by decide +kernel
theorem dL_law_363 : decode cL_law 363 = .ok (.aload_n 0, 1) := by decide +kernel
theorem dL_law_364 : decode cL_law 364 = .ok (.iload_n 3, 1) := by decide +kernel
theorem dL_law_365 : decode cL_law 365 = .ok (.iconst 3, 1) := by decide +kernel
theorem dL_law_366 : decode cL_law 366 = .ok (.iadd, 1) := by decide +kernel
theorem dL_law_367 : decode cL_law 367 = .ok (.iaload, 1) := by decide +kernel
theorem dL_law_368 : decode cL_law 368 = .ok (.invokevirtual 48, 3) := by decide +kernel
theorem dL_law_371 : decode cL_law 371 = .ok (.if_icmp .eq 520, 3) := by decide +kernel
theorem dL_law_374 : decode cL_law 374 = .ok (.iconst 0, 1) := by decide +kernel
theorem dL_law_375 : decode cL_law 375 = .ok (.ireturn, 1) := by decide +kernel
theorem dL_law_376 : decode cL_law 376 = .ok (.aload_n 1, 1) := by decide +kernel
theorem dL_law_377 : decode cL_law 377 = .ok (.aload_n 0, 1) := by decide +kernel
theorem dL_law_378 : decode cL_law 378 = .ok (.iload_n 3, 1) := by decide +kernel
theorem dL_law_379 : decode cL_law 379 = .ok (.iconst 1, 1) := by decide +kernel
theorem dL_law_380 : decode cL_law 380 = .ok (.iadd, 1) := by decide +kernel
theorem dL_law_381 : decode cL_law 381 = .ok (.iaload, 1) := by decide +kernel
theorem dL_law_382 : decode cL_law 382 = .ok (.invokevirtual 49, 3) := by decide +kernel
theorem dL_law_385 : decode cL_law 385 = .ok (.aload_n 2, 1) := by decide +kernel
theorem dL_law_386 : decode cL_law 386 = .ok (.aload_n 0, 1) := by decide +kernel
theorem dL_law_387 : decode cL_law 387 = .ok (.iload_n 3, 1) := by decide +kernel
theorem dL_law_388 : decode cL_law 388 = .ok (.iconst 1, 1) := by decide +kernel
theorem dL_law_389 : decode cL_law 389 = .ok (.iadd, 1) := by decide +kernel
theorem dL_law_390 : decode cL_law 390 = .ok (.iaload, 1) := by decide +kernel
theorem dL_law_391 : decode cL_law 391 = .ok (.invokevirtual 52, 3) := by decide +kernel
theorem dL_law_394 : decode cL_law 394 = .ok (.if_icmp .eq 497, 3) := by decide +kernel
theorem dL_law_397 : decode cL_law 397 = .ok (.iconst 0, 1) := by decide +kernel
theorem dL_law_398 : decode cL_law 398 = .ok (.ireturn, 1) := by decide +kernel
theorem dL_law_399 : decode cL_law 399 = .ok (.aload_n 1, 1) := by decide +kernel
theorem dL_law_400 : decode cL_law 400 = .ok (.aload_n 0, 1) := by decide +kernel
theorem dL_law_401 : decode cL_law 401 = .ok (.iload_n 3, 1) := by decide +kernel
theorem dL_law_402 : decode cL_law 402 = .ok (.iconst 1, 1) := by decide +kernel
theorem dL_law_403 : decode cL_law 403 = .ok (.iadd, 1) := by decide +kernel
theorem dL_law_404 : decode cL_law 404 = .ok (.iaload, 1) := by decide +kernel
theorem dL_law_405 : decode cL_law 405 = .ok (.aload_n 0, 1) := by decide +kernel
theorem dL_law_406 : decode cL_law 406 = .ok (.iload_n 3, 1) := by decide +kernel
theorem dL_law_407 : decode cL_law 407 = .ok (.iconst 2, 1) := by decide +kernel
theorem dL_law_408 : decode cL_law 408 = .ok (.iadd, 1) := by decide +kernel
theorem dL_law_409 : decode cL_law 409 = .ok (.iaload, 1) := by decide +kernel
theorem dL_law_410 : decode cL_law 410 = .ok (.aload_n 0, 1) := by decide +kernel
theorem dL_law_411 : decode cL_law 411 = .ok (.iload_n 3, 1) := by decide +kernel
theorem dL_law_412 : decode cL_law 412 = .ok (.iconst 3, 1) := by decide +kernel
theorem dL_law_413 : decode cL_law 413 = .ok (.iadd, 1) := by decide +kernel
theorem dL_law_414 : decode cL_law 414 = .ok (.iaload, 1) := by decide +kernel
theorem dL_law_415 : decode cL_law 415 = .ok (.invokevirtual 53, 3) := by decide +kernel
theorem dL_law_418 : decode cL_law 418 = .ok (.aload_n 2, 1) := by decide +kernel
theorem dL_law_419 : decode cL_law 419 = .ok (.aload_n 0, 1) := by decide +kernel
theorem dL_law_420 : decode cL_law 420 = .ok (.iload_n 3, 1) := by decide +kernel
theorem dL_law_421 : decode cL_law 421 = .ok (.iconst 1, 1) := by decide +kernel
theorem dL_law_422 : decode cL_law 422 = .ok (.iadd, 1) := by decide +kernel
theorem dL_law_423 : decode cL_law 423 = .ok (.iaload, 1) := by decide +kernel
theorem dL_law_424 : decode cL_law 424 = .ok (.aload_n 0, 1) := by decide +kernel
theorem dL_law_425 : decode cL_law 425 = .ok (.iload_n 3, 1) := by decide +kernel
theorem dL_law_426 : decode cL_law 426 = .ok (.iconst 2, 1) := by decide +kernel
theorem dL_law_427 : decode cL_law 427 = .ok (.iadd, 1) := by decide +kernel
theorem dL_law_428 : decode cL_law 428 = .ok (.iaload, 1) := by decide +kernel
theorem dL_law_429 : decode cL_law 429 = .ok (.aload_n 0, 1) := by decide +kernel
theorem dL_law_430 : decode cL_law 430 = .ok (.iload_n 3, 1) := by decide +kernel
theorem dL_law_431 : decode cL_law 431 = .ok (.iconst 3, 1) := by decide +kernel
theorem dL_law_432 : decode cL_law 432 = .ok (.iadd, 1) := by decide +kernel
theorem dL_law_433 : decode cL_law 433 = .ok (.iaload, 1) := by decide +kernel
theorem dL_law_434 : decode cL_law 434 = .ok (.invokevirtual 56, 3) := by decide +kernel
theorem dL_law_437 : decode cL_law 437 = .ok (.if_icmp .eq 454, 3) := by decide +kernel
theorem dL_law_440 : decode cL_law 440 = .ok (.iconst 0, 1) := by decide +kernel
theorem dL_law_441 : decode cL_law 441 = .ok (.ireturn, 1) := by decide +kernel
theorem dL_law_442 : decode cL_law 442 = .ok (.aload_n 1, 1) := by decide +kernel
theorem dL_law_443 : decode cL_law 443 = .ok (.aload_n 0, 1) := by decide +kernel
theorem dL_law_444 : decode cL_law 444 = .ok (.iload_n 3, 1) := by decide +kernel
theorem dL_law_445 : decode cL_law 445 = .ok (.iconst 1, 1) := by decide +kernel
theorem dL_law_446 : decode cL_law 446 = .ok (.iadd, 1) := by decide +kernel
theorem dL_law_447 : decode cL_law 447 = .ok (.iaload, 1) := by decide +kernel
theorem dL_law_448 : decode cL_law 448 = .ok (.invokevirtual 57, 3) := by decide +kernel
theorem dL_law_451 : decode cL_law 451 = .ok (.aload_n 2, 1) := by decide +kernel
theorem dL_law_452 : decode cL_law 452 = .ok (.aload_n 0, 1) := by decide +kernel
theorem dL_law_453 : decode cL_law 453 = .ok (.iload_n 3, 1) := by decide +kernel
theorem dL_law_454 : decode cL_law 454 = .ok (.iconst 1, 1) := by decide +kernel
theorem dL_law_455 : decode cL_law 455 = .ok (.iadd, 1) := by decide +kernel
theorem dL_law_456 : decode cL_law 456 = .ok (.iaload, 1) := by decide +kernel
theorem dL_law_457 : decode cL_law 457 = .ok (.invokevirtual 60, 3) := by decide +kernel
theorem dL_law_460 : decode cL_law 460 = .ok (.if_icmp .eq 431, 3) := by decide +kernel
theorem dL_law_463 : decode cL_law 463 = .ok (.iconst 0, 1) := by decide +kernel
theorem dL_law_464 : decode cL_law 464 = .ok (.ireturn, 1) := by decide +kernel
theorem dL_law_465 : decode cL_law 465 = .ok (.aload_n 1, 1) := by decide +kernel
theorem dL_law_466 : decode cL_law 466 = .ok (.invokevirtual 61, 3) := by decide +kernel
theorem dL_law_469 : decode cL_law 469 = .ok (.aload_n 2, 1) := by decide +kernel
theorem dL_law_470 : decode cL_law 470 = .ok (.invokevirtual 64, 3) := by decide +kernel
theorem dL_law_473 : decode cL_law 473 = .ok (.if_icmp .eq 418, 3) := by decide +kernel
theorem dL_law_476 : decode cL_law 476 = .ok (.iconst 0, 1) := by decide +kernel
theorem dL_law_477 : decode cL_law 477 = .ok (.ireturn, 1) := by decide +kernel
theorem dL_law_478 : decode cL_law 478 = .ok (.aload_n 1, 1) := by decide +kernel
theorem dL_law_479 : decode cL_law 479 = .ok (.invokevirtual 65, 3) := by decide +kernel
theorem dL_law_482 : decode cL_law 482 = .ok (.aload_n 2, 1) := by decide +kernel
theorem dL_law_483 : decode cL_law 483 = .ok (.invokevirtual 68, 3) := by decide +kernel
theorem dL_law_486 : decode cL_law 486 = .ok (.if_icmp .eq 405, 3) := by decide +kernel
theorem dL_law_489 : decode cL_law 489 = .ok (.iconst 0, 1) := by decide +kernel
theorem dL_law_490 : decode cL_law 490 = .ok (.ireturn, 1) := by decide +kernel
theorem dL_law_491 : decode cL_law 491 = .ok (.aload_n 1, 1) := by decide +kernel
theorem dL_law_492 : decode cL_law 492 = .ok (.aload_n 0, 1) := by decide +kernel
theorem dL_law_493 : decode cL_law 493 = .ok (.iload_n 3, 1) := by decide +kernel
theorem dL_law_494 : decode cL_law 494 = .ok (.iconst 1, 1) := by decide +kernel
theorem dL_law_495 : decode cL_law 495 = .ok (.iadd, 1) := by decide +kernel
theorem dL_law_496 : decode cL_law 496 = .ok (.iaload, 1) := by decide +kernel
theorem dL_law_497 : decode cL_law 497 = .ok (.invokevirtual 69, 3) := by decide +kernel
theorem dL_law_500 : decode cL_law 500 = .ok (.aload_n 2, 1) := by decide +kernel
theorem dL_law_501 : decode cL_law 501 = .ok (.aload_n 0, 1) := by decide +kernel
theorem dL_law_502 : decode cL_law 502 = .ok (.iload_n 3, 1) := by decide +kernel
theorem dL_law_503 : decode cL_law 503 = .ok (.iconst 1, 1) := by decide +kernel
theorem dL_law_504 : decode cL_law 504 = .ok (.iadd, 1) := by decide +kernel
theorem dL_law_505 : decode cL_law 505 = .ok (.iaload, 1) := by decide +kernel
theorem dL_law_506 : decode cL_law 506 = .ok (.invokevirtual 72, 3) := by decide +kernel
theorem dL_law_509 : decode cL_law 509 = .ok (.if_icmp .eq 382, 3) := by decide +kernel
theorem dL_law_512 : decode cL_law 512 = .ok (.iconst 0, 1) := by decide +kernel
theorem dL_law_513 : decode cL_law 513 = .ok (.ireturn, 1) := by decide +kernel
theorem dL_law_514 : decode cL_law 514 = .ok (.aload_n 1, 1) := by decide +kernel
theorem dL_law_515 : decode cL_law 515 = .ok (.aload_n 0, 1) := by decide +kernel
theorem dL_law_516 : decode cL_law 516 = .ok (.iload_n 3, 1) := by decide +kernel
theorem dL_law_517 : decode cL_law 517 = .ok (.iconst 1, 1) := by decide +kernel
theorem dL_law_518 : decode cL_law 518 = .ok (.iadd, 1) := by decide +kernel
theorem dL_law_519 : decode cL_law 519 = .ok (.iaload, 1) := by decide +kernel
theorem dL_law_520 : decode cL_law 520 = .ok (.aload_n 0, 1) := by decide +kernel
theorem dL_law_521 : decode cL_law 521 = .ok (.iload_n 3, 1) := by decide +kernel
theorem dL_law_522 : decode cL_law 522 = .ok (.iconst 2, 1) := by decide +kernel
theorem dL_law_523 : decode cL_law 523 = .ok (.iadd, 1) := by decide +kernel
theorem dL_law_524 : decode cL_law 524 = .ok (.iaload, 1) := by decide +kernel
theorem dL_law_525 : decode cL_law 525 = .ok (.aload_n 0, 1) := by decide +kernel
theorem dL_law_526 : decode cL_law 526 = .ok (.iload_n 3, 1) := by decide +kernel
theorem dL_law_527 : decode cL_law 527 = .ok (.iconst 3, 1) := by decide +kernel
theorem dL_law_528 : decode cL_law 528 = .ok (.iadd, 1) := by decide +kernel
theorem dL_law_529 : decode cL_law 529 = .ok (.iaload, 1) := by decide +kernel
theorem dL_law_530 : decode cL_law 530 = .ok (.invokevirtual 73, 3) := by decide +kernel
theorem dL_law_533 : decode cL_law 533 = .ok (.aload_n 2, 1) := by decide +kernel
theorem dL_law_534 : decode cL_law 534 = .ok (.aload_n 0, 1) := by decide +kernel
theorem dL_law_535 : decode cL_law 535 = .ok (.iload_n 3, 1) := by decide +kernel
theorem dL_law_536 : decode cL_law 536 = .ok (.iconst 1, 1) := by decide +kernel
theorem dL_law_537 : decode cL_law 537 = .ok (.iadd, 1) := by decide +kernel
theorem dL_law_538 : decode cL_law 538 = .ok (.iaload, 1) := by decide +kernel
theorem dL_law_539 : decode cL_law 539 = .ok (.aload_n 0, 1) := by decide +kernel
theorem dL_law_540 : decode cL_law 540 = .ok (.iload_n 3, 1) := by decide +kernel
theorem dL_law_541 : decode cL_law 541 = .ok (.iconst 2, 1) := by decide +kernel
theorem dL_law_542 : decode cL_law 542 = .ok (.iadd, 1) := by decide +kernel
theorem dL_law_543 : decode cL_law 543 = .ok (.iaload, 1) := by decide +kernel
theorem dL_law_544 : decode cL_law 544 = .ok (.aload_n 0, 1) := by decide +kernel
theorem dL_law_545 : decode cL_law 545 = .ok (.iload_n 3, 1) := by decide +kernel
theorem dL_law_546 : decode cL_law 546 = .ok (.iconst 3, 1) := by decide +kernel
theorem dL_law_547 : decode cL_law 547 = .ok (.iadd, 1) := by decide +kernel
theorem dL_law_548 : decode cL_law 548 = .ok (.iaload, 1) := by decide +kernel
theorem dL_law_549 : decode cL_law 549 = .ok (.invokevirtual 76, 3) := by decide +kernel
theorem dL_law_552 : decode cL_law 552 = .ok (.if_icmp .eq 339, 3) := by decide +kernel
theorem dL_law_555 : decode cL_law 555 = .ok (.iconst 0, 1) := by decide +kernel
theorem dL_law_556 : decode cL_law 556 = .ok (.ireturn, 1) := by decide +kernel
theorem dL_law_557 : decode cL_law 557 = .ok (.aload_n 1, 1) := by decide +kernel
theorem dL_law_558 : decode cL_law 558 = .ok (.aload_n 0, 1) := by decide +kernel
theorem dL_law_559 : decode cL_law 559 = .ok (.iload_n 3, 1) := by decide +kernel
theorem dL_law_560 : decode cL_law 560 = .ok (.iconst 1, 1) := by decide +kernel
theorem dL_law_561 : decode cL_law 561 = .ok (.iadd, 1) := by decide +kernel
theorem dL_law_562 : decode cL_law 562 = .ok (.iaload, 1) := by decide +kernel
theorem dL_law_563 : decode cL_law 563 = .ok (.aload_n 0, 1) := by decide +kernel
theorem dL_law_564 : decode cL_law 564 = .ok (.iload_n 3, 1) := by decide +kernel
theorem dL_law_565 : decode cL_law 565 = .ok (.iconst 2, 1) := by decide +kernel
theorem dL_law_566 : decode cL_law 566 = .ok (.iadd, 1) := by decide +kernel
theorem dL_law_567 : decode cL_law 567 = .ok (.iaload, 1) := by decide +kernel
theorem dL_law_568 : decode cL_law 568 = .ok (.invokevirtual 77, 3) := by decide +kernel
theorem dL_law_571 : decode cL_law 571 = .ok (.aload_n 2, 1) := by decide +kernel
theorem dL_law_572 : decode cL_law 572 = .ok (.aload_n 0, 1) := by decide +kernel
theorem dL_law_573 : decode cL_law 573 = .ok (.iload_n 3, 1) := by decide +kernel
theorem dL_law_574 : decode cL_law 574 = .ok (.iconst 1, 1) := by decide +kernel
theorem dL_law_575 : decode cL_law 575 = .ok (.iadd, 1) := by decide +kernel
theorem dL_law_576 : decode cL_law 576 = .ok (.iaload, 1) := by decide +kernel
theorem dL_law_577 : decode cL_law 577 = .ok (.aload_n 0, 1) := by decide +kernel
theorem dL_law_578 : decode cL_law 578 = .ok (.iload_n 3, 1) := by decide +kernel
theorem dL_law_579 : decode cL_law 579 = .ok (.iconst 2, 1) := by decide +kernel
theorem dL_law_580 : decode cL_law 580 = .ok (.iadd, 1) := by decide +kernel
theorem dL_law_581 : decode cL_law 581 = .ok (.iaload, 1) := by decide +kernel
theorem dL_law_582 : decode cL_law 582 = .ok (.invokevirtual 80, 3) := by decide +kernel
theorem dL_law_585 : decode cL_law 585 = .ok (.if_icmp .eq 306, 3) := by decide +kernel
theorem dL_law_588 : decode cL_law 588 = .ok (.iconst 0, 1) := by decide +kernel
theorem dL_law_589 : decode cL_law 589 = .ok (.ireturn, 1) := by decide +kernel
theorem dL_law_590 : decode cL_law 590 = .ok (.aload_n 1, 1) := by decide +kernel
theorem dL_law_591 : decode cL_law 591 = .ok (.aload_n 0, 1) := by decide +kernel
theorem dL_law_592 : decode cL_law 592 = .ok (.iload_n 3, 1) := by decide +kernel
theorem dL_law_593 : decode cL_law 593 = .ok (.iconst 1, 1) := by decide +kernel
theorem dL_law_594 : decode cL_law 594 = .ok (.iadd, 1) := by decide +kernel
theorem dL_law_595 : decode cL_law 595 = .ok (.iaload, 1) := by decide +kernel
theorem dL_law_596 : decode cL_law 596 = .ok (.aload_n 0, 1) := by decide +kernel
theorem dL_law_597 : decode cL_law 597 = .ok (.iload_n 3, 1) := by decide +kernel
theorem dL_law_598 : decode cL_law 598 = .ok (.iconst 2, 1) := by decide +kernel
theorem dL_law_599 : decode cL_law 599 = .ok (.iadd, 1) := by decide +kernel
theorem dL_law_600 : decode cL_law 600 = .ok (.iaload, 1) := by decide +kernel
theorem dL_law_601 : decode cL_law 601 = .ok (.invokevirtual 81, 3) := by decide +kernel
theorem dL_law_604 : decode cL_law 604 = .ok (.aload_n 2, 1) := by decide +kernel
theorem dL_law_605 : decode cL_law 605 = .ok (.aload_n 0, 1) := by decide +kernel
theorem dL_law_606 : decode cL_law 606 = .ok (.iload_n 3, 1) := by decide +kernel
theorem dL_law_607 : decode cL_law 607 = .ok (.iconst 1, 1) := by decide +kernel
theorem dL_law_608 : decode cL_law 608 = .ok (.iadd, 1) := by decide +kernel
theorem dL_law_609 : decode cL_law 609 = .ok (.iaload, 1) := by decide +kernel
theorem dL_law_610 : decode cL_law 610 = .ok (.aload_n 0, 1) := by decide +kernel
theorem dL_law_611 : decode cL_law 611 = .ok (.iload_n 3, 1) := by decide +kernel
theorem dL_law_612 : decode cL_law 612 = .ok (.iconst 2, 1) := by decide +kernel
theorem dL_law_613 : decode cL_law 613 = .ok (.iadd, 1) := by decide +kernel
theorem dL_law_614 : decode cL_law 614 = .ok (.iaload, 1) := by decide +kernel
theorem dL_law_615 : decode cL_law 615 = .ok (.invokevirtual 84, 3) := by decide +kernel
theorem dL_law_618 : decode cL_law 618 = .ok (.if_icmp .eq 273, 3) := by decide +kernel
theorem dL_law_621 : decode cL_law 621 = .ok (.iconst 0, 1) := by decide +kernel
theorem dL_law_622 : decode cL_law 622 = .ok (.ireturn, 1) := by decide +kernel
theorem dL_law_623 : decode cL_law 623 = .ok (.aload_n 1, 1) := by decide +kernel
theorem dL_law_624 : decode cL_law 624 = .ok (.aload_n 0, 1) := by decide +kernel
theorem dL_law_625 : decode cL_law 625 = .ok (.iload_n 3, 1) := by decide +kernel
theorem dL_law_626 : decode cL_law 626 = .ok (.iconst 1, 1) := by decide +kernel
theorem dL_law_627 : decode cL_law 627 = .ok (.iadd, 1) := by decide +kernel
theorem dL_law_628 : decode cL_law 628 = .ok (.iaload, 1) := by decide +kernel
theorem dL_law_629 : decode cL_law 629 = .ok (.aload_n 0, 1) := by decide +kernel
theorem dL_law_630 : decode cL_law 630 = .ok (.iload_n 3, 1) := by decide +kernel
theorem dL_law_631 : decode cL_law 631 = .ok (.iconst 2, 1) := by decide +kernel
theorem dL_law_632 : decode cL_law 632 = .ok (.iadd, 1) := by decide +kernel
theorem dL_law_633 : decode cL_law 633 = .ok (.iaload, 1) := by decide +kernel
theorem dL_law_634 : decode cL_law 634 = .ok (.invokevirtual 85, 3) := by decide +kernel
theorem dL_law_637 : decode cL_law 637 = .ok (.aload_n 2, 1) := by decide +kernel
theorem dL_law_638 : decode cL_law 638 = .ok (.aload_n 0, 1) := by decide +kernel
theorem dL_law_639 : decode cL_law 639 = .ok (.iload_n 3, 1) := by decide +kernel
theorem dL_law_640 : decode cL_law 640 = .ok (.iconst 1, 1) := by decide +kernel
theorem dL_law_641 : decode cL_law 641 = .ok (.iadd, 1) := by decide +kernel
theorem dL_law_642 : decode cL_law 642 = .ok (.iaload, 1) := by decide +kernel
theorem dL_law_643 : decode cL_law 643 = .ok (.aload_n 0, 1) := by decide +kernel
theorem dL_law_644 : decode cL_law 644 = .ok (.iload_n 3, 1) := by decide +kernel
theorem dL_law_645 : decode cL_law 645 = .ok (.iconst 2, 1) := by decide +kernel
theorem dL_law_646 : decode cL_law 646 = .ok (.iadd, 1) := by decide +kernel
theorem dL_law_647 : decode cL_law 647 = .ok (.iaload, 1) := by decide +kernel
theorem dL_law_648 : decode cL_law 648 = .ok (.invokevirtual 88, 3) := by decide +kernel
theorem dL_law_651 : decode cL_law 651 = .ok (.if_icmp .eq 240, 3) := by decide +kernel
theorem dL_law_654 : decode cL_law 654 = .ok (.iconst 0, 1) := by decide +kernel
theorem dL_law_655 : decode cL_law 655 = .ok (.ireturn, 1) := by decide +kernel
theorem dL_law_656 : decode cL_law 656 = .ok (.aload_n 1, 1) := by decide +kernel
theorem dL_law_657 : decode cL_law 657 = .ok (.aload_n 0, 1) := by decide +kernel
theorem dL_law_658 : decode cL_law 658 = .ok (.iload_n 3, 1) := by decide +kernel
theorem dL_law_659 : decode cL_law 659 = .ok (.iconst 1, 1) := by decide +kernel
theorem dL_law_660 : decode cL_law 660 = .ok (.iadd, 1) := by decide +kernel
theorem dL_law_661 : decode cL_law 661 = .ok (.iaload, 1) := by decide +kernel
theorem dL_law_662 : decode cL_law 662 = .ok (.aload_n 0, 1) := by decide +kernel
theorem dL_law_663 : decode cL_law 663 = .ok (.iload_n 3, 1) := by decide +kernel
theorem dL_law_664 : decode cL_law 664 = .ok (.iconst 2, 1) := by decide +kernel
theorem dL_law_665 : decode cL_law 665 = .ok (.iadd, 1) := by decide +kernel
theorem dL_law_666 : decode cL_law 666 = .ok (.iaload, 1) := by decide +kernel
theorem dL_law_667 : decode cL_law 667 = .ok (.invokevirtual 89, 3) := by decide +kernel
theorem dL_law_670 : decode cL_law 670 = .ok (.aload_n 2, 1) := by decide +kernel
theorem dL_law_671 : decode cL_law 671 = .ok (.aload_n 0, 1) := by decide +kernel
theorem dL_law_672 : decode cL_law 672 = .ok (.iload_n 3, 1) := by decide +kernel
theorem dL_law_673 : decode cL_law 673 = .ok (.iconst 1, 1) := by decide +kernel
theorem dL_law_674 : decode cL_law 674 = .ok (.iadd, 1) := by decide +kernel
theorem dL_law_675 : decode cL_law 675 = .ok (.iaload, 1) := by decide +kernel
theorem dL_law_676 : decode cL_law 676 = .ok (.aload_n 0, 1) := by decide +kernel
theorem dL_law_677 : decode cL_law 677 = .ok (.iload_n 3, 1) := by decide +kernel
theorem dL_law_678 : decode cL_law 678 = .ok (.iconst 2, 1) := by decide +kernel
theorem dL_law_679 : decode cL_law 679 = .ok (.iadd, 1) := by decide +kernel
theorem dL_law_680 : decode cL_law 680 = .ok (.iaload, 1) := by decide +kernel
theorem dL_law_681 : decode cL_law 681 = .ok (.invokevirtual 92, 3) := by decide +kernel
theorem dL_law_684 : decode cL_law 684 = .ok (.if_icmp .eq 207, 3) := by decide +kernel
theorem dL_law_687 : decode cL_law 687 = .ok (.iconst 0, 1) := by decide +kernel
theorem dL_law_688 : decode cL_law 688 = .ok (.ireturn, 1) := by decide +kernel
theorem dL_law_689 : decode cL_law 689 = .ok (.aload_n 1, 1) := by decide +kernel
theorem dL_law_690 : decode cL_law 690 = .ok (.aload_n 0, 1) := by decide +kernel
theorem dL_law_691 : decode cL_law 691 = .ok (.iload_n 3, 1) := by decide +kernel
theorem dL_law_692 : decode cL_law 692 = .ok (.iconst 1, 1) := by decide +kernel
theorem dL_law_693 : decode cL_law 693 = .ok (.iadd, 1) := by decide +kernel
theorem dL_law_694 : decode cL_law 694 = .ok (.iaload, 1) := by decide +kernel
theorem dL_law_695 : decode cL_law 695 = .ok (.aload_n 0, 1) := by decide +kernel
theorem dL_law_696 : decode cL_law 696 = .ok (.iload_n 3, 1) := by decide +kernel
theorem dL_law_697 : decode cL_law 697 = .ok (.iconst 2, 1) := by decide +kernel
theorem dL_law_698 : decode cL_law 698 = .ok (.iadd, 1) := by decide +kernel
theorem dL_law_699 : decode cL_law 699 = .ok (.iaload, 1) := by decide +kernel
theorem dL_law_700 : decode cL_law 700 = .ok (.aload_n 0, 1) := by decide +kernel
theorem dL_law_701 : decode cL_law 701 = .ok (.iload_n 3, 1) := by decide +kernel
theorem dL_law_702 : decode cL_law 702 = .ok (.iconst 3, 1) := by decide +kernel
theorem dL_law_703 : decode cL_law 703 = .ok (.iadd, 1) := by decide +kernel
theorem dL_law_704 : decode cL_law 704 = .ok (.iaload, 1) := by decide +kernel
theorem dL_law_705 : decode cL_law 705 = .ok (.aload_n 0, 1) := by decide +kernel
theorem dL_law_706 : decode cL_law 706 = .ok (.iload_n 3, 1) := by decide +kernel
theorem dL_law_707 : decode cL_law 707 = .ok (.iconst 4, 1) := by decide +kernel
theorem dL_law_708 : decode cL_law 708 = .ok (.iadd, 1) := by decide +kernel
theorem dL_law_709 : decode cL_law 709 = .ok (.iaload, 1) := by decide +kernel
theorem dL_law_710 : decode cL_law 710 = .ok (.invokevirtual 93, 3) := by decide +kernel
theorem dL_law_713 : decode cL_law 713 = .ok (.aload_n 2, 1) := by decide +kernel
theorem dL_law_714 : decode cL_law 714 = .ok (.aload_n 0, 1) := by decide +kernel
theorem dL_law_715 : decode cL_law 715 = .ok (.iload_n 3, 1) := by decide +kernel
theorem dL_law_716 : decode cL_law 716 = .ok (.iconst 1, 1) := by decide +kernel
theorem dL_law_717 : decode cL_law 717 = .ok (.iadd, 1) := by decide +kernel
theorem dL_law_718 : decode cL_law 718 = .ok (.iaload, 1) := by decide +kernel
theorem dL_law_719 : decode cL_law 719 = .ok (.aload_n 0, 1) := by decide +kernel
theorem dL_law_720 : decode cL_law 720 = .ok (.iload_n 3, 1) := by decide +kernel
theorem dL_law_721 : decode cL_law 721 = .ok (.iconst 2, 1) := by decide +kernel
theorem dL_law_722 : decode cL_law 722 = .ok (.iadd, 1) := by decide +kernel
theorem dL_law_723 : decode cL_law 723 = .ok (.iaload, 1) := by decide +kernel
theorem dL_law_724 : decode cL_law 724 = .ok (.aload_n 0, 1) := by decide +kernel
theorem dL_law_725 : decode cL_law 725 = .ok (.iload_n 3, 1) := by decide +kernel
theorem dL_law_726 : decode cL_law 726 = .ok (.iconst 3, 1) := by decide +kernel
theorem dL_law_727 : decode cL_law 727 = .ok (.iadd, 1) := by decide +kernel
theorem dL_law_728 : decode cL_law 728 = .ok (.iaload, 1) := by decide +kernel
theorem dL_law_729 : decode cL_law 729 = .ok (.aload_n 0, 1) := by decide +kernel
theorem dL_law_730 : decode cL_law 730 = .ok (.iload_n 3, 1) := by decide +kernel
theorem dL_law_731 : decode cL_law 731 = .ok (.iconst 4, 1) := by decide +kernel
theorem dL_law_732 : decode cL_law 732 = .ok (.iadd, 1) := by decide +kernel
theorem dL_law_733 : decode cL_law 733 = .ok (.iaload, 1) := by decide +kernel
theorem dL_law_734 : decode cL_law 734 = .ok (.invokevirtual 97, 3) := by decide +kernel
theorem dL_law_737 : decode cL_law 737 = .ok (.if_icmp .eq 154, 3) := by decide +kernel
theorem dL_law_740 : decode cL_law 740 = .ok (.iconst 0, 1) := by decide +kernel
theorem dL_law_741 : decode cL_law 741 = .ok (.ireturn, 1) := by decide +kernel
theorem dL_law_742 : decode cL_law 742 = .ok (.aload_n 1, 1) := by decide +kernel
theorem dL_law_743 : decode cL_law 743 = .ok (.aload_n 0, 1) := by decide +kernel
theorem dL_law_744 : decode cL_law 744 = .ok (.iload_n 3, 1) := by decide +kernel
theorem dL_law_745 : decode cL_law 745 = .ok (.iconst 1, 1) := by decide +kernel
theorem dL_law_746 : decode cL_law 746 = .ok (.iadd, 1) := by decide +kernel
theorem dL_law_747 : decode cL_law 747 = .ok (.iaload, 1) := by decide +kernel
theorem dL_law_748 : decode cL_law 748 = .ok (.aload_n 0, 1) := by decide +kernel
theorem dL_law_749 : decode cL_law 749 = .ok (.iload_n 3, 1) := by decide +kernel
theorem dL_law_750 : decode cL_law 750 = .ok (.iconst 2, 1) := by decide +kernel
theorem dL_law_751 : decode cL_law 751 = .ok (.iadd, 1) := by decide +kernel
theorem dL_law_752 : decode cL_law 752 = .ok (.iaload, 1) := by decide +kernel
theorem dL_law_753 : decode cL_law 753 = .ok (.invokevirtual 98, 3) := by decide +kernel
theorem dL_law_756 : decode cL_law 756 = .ok (.aload_n 2, 1) := by decide +kernel
theorem dL_law_757 : decode cL_law 757 = .ok (.aload_n 0, 1) := by decide +kernel
theorem dL_law_758 : decode cL_law 758 = .ok (.iload_n 3, 1) := by decide +kernel
theorem dL_law_759 : decode cL_law 759 = .ok (.iconst 1, 1) := by decide +kernel
theorem dL_law_760 : decode cL_law 760 = .ok (.iadd, 1) := by decide +kernel
theorem dL_law_761 : decode cL_law 761 = .ok (.iaload, 1) := by decide +kernel
theorem dL_law_762 : decode cL_law 762 = .ok (.aload_n 0, 1) := by decide +kernel
theorem dL_law_763 : decode cL_law 763 = .ok (.iload_n 3, 1) := by decide +kernel
theorem dL_law_764 : decode cL_law 764 = .ok (.iconst 2, 1) := by decide +kernel
theorem dL_law_765 : decode cL_law 765 = .ok (.iadd, 1) := by decide +kernel
theorem dL_law_766 : decode cL_law 766 = .ok (.iaload, 1) := by decide +kernel
theorem dL_law_767 : decode cL_law 767 = .ok (.invokevirtual 101, 3) := by decide +kernel
theorem dL_law_770 : decode cL_law 770 = .ok (.if_icmp .eq 121, 3) := by decide +kernel
theorem dL_law_773 : decode cL_law 773 = .ok (.iconst 0, 1) := by decide +kernel
theorem dL_law_774 : decode cL_law 774 = .ok (.ireturn, 1) := by decide +kernel
theorem dL_law_775 : decode cL_law 775 = .ok (.aload_n 1, 1) := by decide +kernel
theorem dL_law_776 : decode cL_law 776 = .ok (.aload_n 0, 1) := by decide +kernel
theorem dL_law_777 : decode cL_law 777 = .ok (.iload_n 3, 1) := by decide +kernel
theorem dL_law_778 : decode cL_law 778 = .ok (.iconst 1, 1) := by decide +kernel
theorem dL_law_779 : decode cL_law 779 = .ok (.iadd, 1) := by decide +kernel
theorem dL_law_780 : decode cL_law 780 = .ok (.iaload, 1) := by decide +kernel
theorem dL_law_781 : decode cL_law 781 = .ok (.aload_n 0, 1) := by decide +kernel
theorem dL_law_782 : decode cL_law 782 = .ok (.iload_n 3, 1) := by decide +kernel
theorem dL_law_783 : decode cL_law 783 = .ok (.iconst 2, 1) := by decide +kernel
theorem dL_law_784 : decode cL_law 784 = .ok (.iadd, 1) := by decide +kernel
theorem dL_law_785 : decode cL_law 785 = .ok (.iaload, 1) := by decide +kernel
theorem dL_law_786 : decode cL_law 786 = .ok (.invokevirtual 102, 3) := by decide +kernel
theorem dL_law_789 : decode cL_law 789 = .ok (.aload_n 2, 1) := by decide +kernel
theorem dL_law_790 : decode cL_law 790 = .ok (.aload_n 0, 1) := by decide +kernel
theorem dL_law_791 : decode cL_law 791 = .ok (.iload_n 3, 1) := by decide +kernel
theorem dL_law_792 : decode cL_law 792 = .ok (.iconst 1, 1) := by decide +kernel
theorem dL_law_793 : decode cL_law 793 = .ok (.iadd, 1) := by decide +kernel
theorem dL_law_794 : decode cL_law 794 = .ok (.iaload, 1) := by decide +kernel
theorem dL_law_795 : decode cL_law 795 = .ok (.aload_n 0, 1) := by decide +kernel
theorem dL_law_796 : decode cL_law 796 = .ok (.iload_n 3, 1) := by decide +kernel
theorem dL_law_797 : decode cL_law 797 = .ok (.iconst 2, 1) := by decide +kernel
theorem dL_law_798 : decode cL_law 798 = .ok (.iadd, 1) := by decide +kernel
theorem dL_law_799 : decode cL_law 799 = .ok (.iaload, 1) := by decide +kernel
theorem dL_law_800 : decode cL_law 800 = .ok (.invokevirtual 105, 3) := by decide +kernel
theorem dL_law_803 : decode cL_law 803 = .ok (.if_icmp .eq 88, 3) := by decide +kernel
theorem dL_law_806 : decode cL_law 806 = .ok (.iconst 0, 1) := by decide +kernel
theorem dL_law_807 : decode cL_law 807 = .ok (.ireturn, 1) := by decide +kernel
theorem dL_law_808 : decode cL_law 808 = .ok (.aload_n 1, 1) := by decide +kernel
theorem dL_law_809 : decode cL_law 809 = .ok (.aload_n 0, 1) := by decide +kernel
theorem dL_law_810 : decode cL_law 810 = .ok (.iload_n 3, 1) := by decide +kernel
theorem dL_law_811 : decode cL_law 811 = .ok (.iconst 1, 1) := by decide +kernel
theorem dL_law_812 : decode cL_law 812 = .ok (.iadd, 1) := by decide +kernel
theorem dL_law_813 : decode cL_law 813 = .ok (.iaload, 1) := by decide +kernel
theorem dL_law_814 : decode cL_law 814 = .ok (.invokevirtual 106, 3) := by decide +kernel
theorem dL_law_817 : decode cL_law 817 = .ok (.aload_n 2, 1) := by decide +kernel
theorem dL_law_818 : decode cL_law 818 = .ok (.aload_n 0, 1) := by decide +kernel
theorem dL_law_819 : decode cL_law 819 = .ok (.iload_n 3, 1) := by decide +kernel
theorem dL_law_820 : decode cL_law 820 = .ok (.iconst 1, 1) := by decide +kernel
theorem dL_law_821 : decode cL_law 821 = .ok (.iadd, 1) := by decide +kernel
theorem dL_law_822 : decode cL_law 822 = .ok (.iaload, 1) := by decide +kernel
theorem dL_law_823 : decode cL_law 823 = .ok (.invokevirtual 109, 3) := by decide +kernel
theorem dL_law_826 : decode cL_law 826 = .ok (.if_icmp .eq 65, 3) := by decide +kernel
theorem dL_law_829 : decode cL_law 829 = .ok (.iconst 0, 1) := by decide +kernel
theorem dL_law_830 : decode cL_law 830 = .ok (.ireturn, 1) := by decide +kernel
theorem dL_law_831 : decode cL_law 831 = .ok (.aload_n 1, 1) := by decide +kernel
theorem dL_law_832 : decode cL_law 832 = .ok (.aload_n 0, 1) := by decide +kernel
theorem dL_law_833 : decode cL_law 833 = .ok (.iload_n 3, 1) := by decide +kernel
theorem dL_law_834 : decode cL_law 834 = .ok (.iconst 1, 1) := by decide +kernel
theorem dL_law_835 : decode cL_law 835 = .ok (.iadd, 1) := by decide +kernel
theorem dL_law_836 : decode cL_law 836 = .ok (.iaload, 1) := by decide +kernel
theorem dL_law_837 : decode cL_law 837 = .ok (.invokevirtual 110, 3) := by decide +kernel
theorem dL_law_840 : decode cL_law 840 = .ok (.aload_n 2, 1) := by decide +kernel
theorem dL_law_841 : decode cL_law 841 = .ok (.aload_n 0, 1) := by decide +kernel
theorem dL_law_842 : decode cL_law 842 = .ok (.iload_n 3, 1) := by decide +kernel
theorem dL_law_843 : decode cL_law 843 = .ok (.iconst 1, 1) := by decide +kernel
theorem dL_law_844 : decode cL_law 844 = .ok (.iadd, 1) := by decide +kernel
theorem dL_law_845 : decode cL_law 845 = .ok (.iaload, 1) := by decide +kernel
theorem dL_law_846 : decode cL_law 846 = .ok (.invokevirtual 113, 3) := by decide +kernel
theorem dL_law_849 : decode cL_law 849 = .ok (.if_icmp .eq 42, 3) := by decide +kernel
theorem dL_law_852 : decode cL_law 852 = .ok (.iconst 0, 1) := by decide +kernel
theorem dL_law_853 : decode cL_law 853 = .ok (.ireturn, 1) := by decide +kernel
theorem dL_law_854 : decode cL_law 854 = .ok (.aload_n 1, 1) := by decide +kernel
theorem dL_law_855 : decode cL_law 855 = .ok (.aload_n 0, 1) := by decide +kernel
theorem dL_law_856 : decode cL_law 856 = .ok (.iload_n 3, 1) := by decide +kernel
theorem dL_law_857 : decode cL_law 857 = .ok (.iconst 1, 1) := by decide +kernel
theorem dL_law_858 : decode cL_law 858 = .ok (.iadd, 1) := by decide +kernel
theorem dL_law_859 : decode cL_law 859 = .ok (.iaload, 1) := by decide +kernel
theorem dL_law_860 : decode cL_law 860 = .ok (.invokevirtual 114, 3) := by decide +kernel
theorem dL_law_863 : decode cL_law 863 = .ok (.aload_n 2, 1) := by decide +kernel
theorem dL_law_864 : decode cL_law 864 = .ok (.aload_n 0, 1) := by decide +kernel
theorem dL_law_865 : decode cL_law 865 = .ok (.iload_n 3, 1) := by decide +kernel
theorem dL_law_866 : decode cL_law 866 = .ok (.iconst 1, 1) := by decide +kernel
theorem dL_law_867 : decode cL_law 867 = .ok (.iadd, 1) := by decide +kernel
theorem dL_law_868 : decode cL_law 868 = .ok (.iaload, 1) := by decide +kernel
theorem dL_law_869 : decode cL_law 869 = .ok (.invokevirtual 117, 3) := by decide +kernel
theorem dL_law_872 : decode cL_law 872 = .ok (.if_icmp .eq 19, 3) := by decide +kernel
theorem dL_law_875 : decode cL_law 875 = .ok (.iconst 0, 1) := by decide +kernel
theorem dL_law_876 : decode cL_law 876 = .ok (.ireturn, 1) := by decide +kernel
theorem dL_law_877 : decode cL_law 877 = .ok (.aload_n 1, 1) := by decide +kernel
theorem dL_law_878 : decode cL_law 878 = .ok (.invokevirtual 118, 3) := by decide +kernel
theorem dL_law_881 : decode cL_law 881 = .ok (.aload_n 2, 1) := by decide +kernel
theorem dL_law_882 : decode cL_law 882 = .ok (.invokevirtual 122, 3) := by decide +kernel
theorem dL_law_885 : decode cL_law 885 = .ok (.lcmp, 1) := by decide +kernel
theorem dL_law_886 : decode cL_law 886 = .ok (.ifCond .eq 5, 3) := by decide +kernel
theorem dL_law_889 : decode cL_law 889 = .ok (.iconst 0, 1) := by decide +kernel
theorem dL_law_890 : decode cL_law 890 = .ok (.ireturn, 1) := by decide +kernel
theorem dL_law_891 : decode cL_law 891 = .ok (.iinc 3 5, 3) := by decide +kernel
theorem dL_law_894 : decode cL_law 894 = .ok (.goto (-876), 3) := by decide +kernel
theorem dL_law_897 : decode cL_law 897 = .ok (.iconst 1, 1) := by decide +kernel
theorem dL_law_898 : decode cL_law 898 = .ok (.ireturn, 1) := by decide +kernel
theorem dJ9_max_7cf53_0 : decode cJ9_max_7cf53 0 = .ok (.iload_n 0, 1) := by decide +kernel
theorem dJ9_max_7cf53_1 : decode cJ9_max_7cf53 1 = .ok (.iload_n 1, 1) := by decide +kernel
theorem dJ9_max_7cf53_2 : decode cJ9_max_7cf53 2 = .ok (.if_icmp .lt 7, 3) := by decide +kernel
theorem dJ9_max_7cf53_5 : decode cJ9_max_7cf53 5 = .ok (.iload_n 0, 1) := by decide +kernel
theorem dJ9_max_7cf53_6 : decode cJ9_max_7cf53 6 = .ok (.goto 4, 3) := by decide +kernel
theorem dJ9_max_7cf53_9 : decode cJ9_max_7cf53 9 = .ok (.iload_n 1, 1) := by decide +kernel
theorem dJ9_max_7cf53_10 : decode cJ9_max_7cf53 10 = .ok (.ireturn, 1) := by decide +kernel
theorem dJ9_min_7cf53_0 : decode cJ9_min_7cf53 0 = .ok (.iload_n 0, 1) := by decide +kernel
theorem dJ9_min_7cf53_1 : decode cJ9_min_7cf53 1 = .ok (.iload_n 1, 1) := by decide +kernel
theorem dJ9_min_7cf53_2 : decode cJ9_min_7cf53 2 = .ok (.if_icmp .gt 7, 3) := by decide +kernel
theorem dJ9_min_7cf53_5 : decode cJ9_min_7cf53 5 = .ok (.iload_n 0, 1) := by decide +kernel
theorem dJ9_min_7cf53_6 : decode cJ9_min_7cf53 6 = .ok (.goto 4, 3) := by decide +kernel
theorem dJ9_min_7cf53_9 : decode cJ9_min_7cf53 9 = .ok (.iload_n 1, 1) := by decide +kernel
theorem dJ9_min_7cf53_10 : decode cJ9_min_7cf53 10 = .ok (.ireturn, 1) := by decide +kernel
theorem dJ7_fill_53178_0 : decode cJ7_fill_53178 0 = .ok (.iconst 0, 1) := by decide +kernel
theorem dJ7_fill_53178_1 : decode cJ7_fill_53178 1 = .ok (.istore_n 2, 1) := by decide +kernel
theorem dJ7_fill_53178_2 : decode cJ7_fill_53178 2 = .ok (.aload_n 0, 1) := by decide +kernel
theorem dJ7_fill_53178_3 : decode cJ7_fill_53178 3 = .ok (.arraylength, 1) := by decide +kernel
theorem dJ7_fill_53178_4 : decode cJ7_fill_53178 4 = .ok (.istore_n 3, 1) := by decide +kernel
theorem dJ7_fill_53178_5 : decode cJ7_fill_53178 5 = .ok (.iload_n 2, 1) := by decide +kernel
theorem dJ7_fill_53178_6 : decode cJ7_fill_53178 6 = .ok (.iload_n 3, 1) := by decide +kernel
theorem dJ7_fill_53178_7 : decode cJ7_fill_53178 7 = .ok (.if_icmp .ge 13, 3) := by decide +kernel
theorem dJ7_fill_53178_10 : decode cJ7_fill_53178 10 = .ok (.aload_n 0, 1) := by decide +kernel
theorem dJ7_fill_53178_11 : decode cJ7_fill_53178 11 = .ok (.iload_n 2, 1) := by decide +kernel
theorem dJ7_fill_53178_12 : decode cJ7_fill_53178 12 = .ok (.iload_n 1, 1) := by decide +kernel
theorem dJ7_fill_53178_13 : decode cJ7_fill_53178 13 = .ok (.iastore, 1) := by decide +kernel
theorem dJ7_fill_53178_14 : decode cJ7_fill_53178 14 = .ok (.iinc 2 1, 3) := by decide +kernel
theorem dJ7_fill_53178_17 : decode cJ7_fill_53178 17 = .ok (.goto (-12), 3) := by decide +kernel
theorem dJ7_fill_53178_20 : decode cJ7_fill_53178 20 = .ok (.return_, 1) := by decide +kernel
end
section
/-! The judgement G: the machine's W with its context folded away. The heap of the system is n cells, at base, base + 1, ..; h tells each. -/
def gW (base n : Nat) (h : Nat → va_E) : va_W := (List.range n).map (fun k => (base + k, h k))
theorem gW_at {base n k : Nat} {h : Nat → va_E} (hk : k < n) : (gW base n h)[k]? = some (base + k, h k) := by
  simp [gW, List.getElem?_map, List.getElem?_range hk]
theorem gW_inv {base n k : Nat} {h : Nat → va_E} {q : Nat × va_E} (hq : (gW base n h)[k]? = some q) : k < n ∧ q = (base + k, h k) := by
  have hl : k < (gW base n h).length := (List.getElem?_eq_some_iff.mp hq).1
  have hk : k < n := by simpa [gW] using hl
  rw [gW_at hk] at hq
  exact ⟨hk, (Option.some.inj hq).symm⟩
theorem gW_set {base n k : Nat} {h : Nat → va_E} {e : va_E} : (gW base n h).set k (base + k, e) = gW base n (va_up h k e) := by
  apply List.ext_getElem?
  intro i
  rw [List.getElem?_set]
  by_cases hi : i < n
  · rw [gW_at hi, gW_at hi]
    by_cases hk : k = i
    · subst hk
      rw [if_pos rfl, if_pos (by simp [gW]; exact hi)]
      simp [va_up]
    · rw [if_neg hk]
      have h2 : ¬ i = k := fun q => hk q.symm
      simp [va_up, h2]
  · have n1 : (gW base n h)[i]? = none := List.getElem?_eq_none (by simp [gW]; omega)
    have n2 : (gW base n (va_up h k e))[i]? = none := List.getElem?_eq_none (by simp [gW]; omega)
    rw [n1, n2]
    by_cases hk : k = i
    · subst hk
      rw [if_pos rfl, if_neg (by simp [gW]; omega)]
    · rw [if_neg hk]
def gA (base : Nat) : Nat → Prop := fun q => base ≤ q
theorem gW_D {base n : Nat} {h : Nat → va_E} : va_D (gA base) (gW base n h) := by
  refine ⟨fun i j p q hi hj hpq => ?_, fun k q hk => ?_⟩
  · obtain ⟨-, rfl⟩ := gW_inv hi
    obtain ⟨-, rfl⟩ := gW_inv hj
    have h1 : base + i = base + j := hpq
    omega
  · obtain ⟨-, rfl⟩ := gW_inv hk
    show base ≤ base + k
    omega
/-- the kinds of arrays: 0 int, 1 boolean, 2 of ledgers, 3 of moments, 4 of int arrays -/
def gT (cy : Nat → ClassId) : List (ClassId × FieldType) := [(cy 0, .int), (cy 1, .boolean), (cy 2, .object "OwedFalls$Ledger"), (cy 3, .object "OwedFalls$Moment"), (cy 4, .array .int)]
def gNN : Nat := 199
/-- the words that every method's contract rests on; those that move with the tables in another way stand in gBd -/
def gTbl : List Cond := lw_tbl.filter goodWord
def gNest : List (String × Nat × MethodName × String) := [(RX8, 9, yX4_init, RX8), (RX0, 11, yX1_init, RX8), (RX8, 33, yX7_init, RX8), (RX8, 40, yX2_init, RX8), (RX8, 47, yX5_init, RX8), (RX8, 54, yX6_init, RX8), (RX8, 61, yX3_init, RX8), (RX5, 41, yX8_bondAt, RX8)]
def gBd (U : State) : Prop := (∀ q ∈ gNest, va_Nw (.methodLinkNest q.1 q.2.1 q.2.2.1 q.2.2.2) U) ∧ va_AO "OwedFalls$Moment" U ∧ va_AO "OwedFalls$Ledger" U
theorem gBd.warm {s U : State} (hW : s.WarmedH U.vm) (h : gBd s) : gBd U := ⟨fun q hq => va_Nw.warmM hW (h.1 q hq), h.2.1.moved hW.alike, h.2.2.moved hW.alike⟩
def gX : Type := State → Array Value → Method → Prop
def gZ : Type := List Frame → Array Value → State → State → Prop
def gCx (D : va_G) (cy : Nat → ClassId) (base : Nat) (own : String) (cc : ByteArray) (nL : Nat) (ret : Option FieldType) (X : gX) (lv : List (Nat × Value)) (n : Nat) (h : Nat → va_E)
    (p : Program) (s : State) (m : MethodId) (args : Array Value) (meth : Method) (c : Code) (H : Heap) (locs : List Loc) (ls : Array Slot) : Prop :=
  (p.tables.exec = Jvm.exec ∧ c.code = cc ∧ meth.sig.returnType = ret ∧ c.maxLocals = nL ∧ s.vm.findClass own = some m.cls ∧ (∀ w ∈ gTbl, w.before args s = true) ∧ meth.locks = false) ∧
  (va_K D vwCl (gT cy) s ∧ base ≤ s.heap.size ∧ X s args meth ∧ gBd s) ∧ (n = gNN ∨ H.size = base + n) ∧ va_P D vwCl (gW base n h) H ∧ va_S (gA base) s.heap H locs ∧ lv_has ls nL lv
def G (l : Launch) (D : va_G) (cy : Nat → ClassId) (base : Nat) (own : String) (cc : ByteArray) (nL : Nat) (ret : Option FieldType) (R : Room) (X : gX) (Z : gZ) (pc : Nat) (lv : List (Nat × Value)) (st : List Value) (cells slots n : Nat) (h : Nat → va_E) : Prop :=
  ∀ (p : Program) (e : Env) (s : State) (m : MethodId) (args : Array Value) (below : List Frame) (meth : Method) (c : Code) (H : Heap) (locs : List Loc) (ls : Array Slot),
    gCx D cy base own cc nL ret X lv n h p s m args meth c H locs ls → W p l e R s m args below meth c H locs cells slots (Z below args s) (F0 m pc ls st)
section GRows
variable {l : Launch} {D : va_G} {cy : Nat → ClassId} {base : Nat} {own : String} {cc : ByteArray} {nL : Nat} {ret : Option FieldType} {R : Room} {X : gX} {Z : gZ} {pc : Nat} {lv : List (Nat × Value)} {st : List Value} {cells slots n : Nat} {h : Nat → va_E}

theorem g_iadd {x y : Int32} (hdg : decode cc pc = .ok (.iadd, 1))  (k : G l D cy base own cc nL ret R X Z (pc + 1) lv (.int (x + y) :: st) cells slots n h) : G l D cy base own cc nL ret R X Z pc lv (.int y :: .int x :: st) cells slots n h := fun p e s m args below meth c H locs ls C => lv_iadd C.1.1 C.1.2.1 hdg  (k p e s m args below meth c H locs ls C)
theorem g_isub {x y : Int32} (hdg : decode cc pc = .ok (.isub, 1))  (k : G l D cy base own cc nL ret R X Z (pc + 1) lv (.int (x - y) :: st) cells slots n h) : G l D cy base own cc nL ret R X Z pc lv (.int y :: .int x :: st) cells slots n h := fun p e s m args below meth c H locs ls C => lv_isub C.1.1 C.1.2.1 hdg  (k p e s m args below meth c H locs ls C)
theorem g_imul {x y : Int32} (hdg : decode cc pc = .ok (.imul, 1))  (k : G l D cy base own cc nL ret R X Z (pc + 1) lv (.int (x * y) :: st) cells slots n h) : G l D cy base own cc nL ret R X Z pc lv (.int y :: .int x :: st) cells slots n h := fun p e s m args below meth c H locs ls C => lv_imul C.1.1 C.1.2.1 hdg  (k p e s m args below meth c H locs ls C)
theorem g_ishl {x y : Int32} (hdg : decode cc pc = .ok (.ishl, 1))  (k : G l D cy base own cc nL ret R X Z (pc + 1) lv (.int (x <<< (y &&& 31)) :: st) cells slots n h) : G l D cy base own cc nL ret R X Z pc lv (.int y :: .int x :: st) cells slots n h := fun p e s m args below meth c H locs ls C => lv_ishl C.1.1 C.1.2.1 hdg  (k p e s m args below meth c H locs ls C)
theorem g_ishr {x y : Int32} (hdg : decode cc pc = .ok (.ishr, 1))  (k : G l D cy base own cc nL ret R X Z (pc + 1) lv (.int (x >>> (y &&& 31)) :: st) cells slots n h) : G l D cy base own cc nL ret R X Z pc lv (.int y :: .int x :: st) cells slots n h := fun p e s m args below meth c H locs ls C => lv_ishr C.1.1 C.1.2.1 hdg  (k p e s m args below meth c H locs ls C)
theorem g_iand {x y : Int32} (hdg : decode cc pc = .ok (.iand, 1))  (k : G l D cy base own cc nL ret R X Z (pc + 1) lv (.int (x &&& y) :: st) cells slots n h) : G l D cy base own cc nL ret R X Z pc lv (.int y :: .int x :: st) cells slots n h := fun p e s m args below meth c H locs ls C => lv_iand C.1.1 C.1.2.1 hdg  (k p e s m args below meth c H locs ls C)
theorem g_ior {x y : Int32} (hdg : decode cc pc = .ok (.ior, 1))  (k : G l D cy base own cc nL ret R X Z (pc + 1) lv (.int (x ||| y) :: st) cells slots n h) : G l D cy base own cc nL ret R X Z pc lv (.int y :: .int x :: st) cells slots n h := fun p e s m args below meth c H locs ls C => lv_ior C.1.1 C.1.2.1 hdg  (k p e s m args below meth c H locs ls C)
theorem g_idiv {x y : Int32} (hdg : decode cc pc = .ok (.idiv, 1)) (hne : ¬ y = 0) (k : G l D cy base own cc nL ret R X Z (pc + 1) lv (.int (x / y) :: st) cells slots n h) : G l D cy base own cc nL ret R X Z pc lv (.int y :: .int x :: st) cells slots n h := fun p e s m args below meth c H locs ls C => lv_idiv C.1.1 C.1.2.1 hdg hne (k p e s m args below meth c H locs ls C)
theorem g_irem {x y : Int32} (hdg : decode cc pc = .ok (.irem, 1)) (hne : ¬ y = 0) (k : G l D cy base own cc nL ret R X Z (pc + 1) lv (.int (x - x / y * y) :: st) cells slots n h) : G l D cy base own cc nL ret R X Z pc lv (.int y :: .int x :: st) cells slots n h := fun p e s m args below meth c H locs ls C => lv_irem C.1.1 C.1.2.1 hdg hne (k p e s m args below meth c H locs ls C)
theorem g_ladd {x y : Int64} (hdg : decode cc pc = .ok (.ladd, 1))  (k : G l D cy base own cc nL ret R X Z (pc + 1) lv (.long (x + y) :: st) cells slots n h) : G l D cy base own cc nL ret R X Z pc lv (.long y :: .long x :: st) cells slots n h := fun p e s m args below meth c H locs ls C => lv_ladd C.1.1 C.1.2.1 hdg  (k p e s m args below meth c H locs ls C)
theorem g_lcmp {x y : Int64} (hdg : decode cc pc = .ok (.lcmp, 1))  (k : G l D cy base own cc nL ret R X Z (pc + 1) lv (.int (lg_cmp x y) :: st) cells slots n h) : G l D cy base own cc nL ret R X Z pc lv (.long y :: .long x :: st) cells slots n h := fun p e s m args below meth c H locs ls C => W.lcmp C.1.1 C.1.2.1 hdg  (k p e s m args below meth c H locs ls C)
theorem g_iconst {k0 : Int} {v : Int32} (hdg : decode cc pc = .ok (.iconst k0, 1)) (hv : Int32.ofInt k0 = v) (k : G l D cy base own cc nL ret R X Z (pc + 1) lv (.int v :: st) cells slots n h) : G l D cy base own cc nL ret R X Z pc lv st cells slots n h := fun p e s m args below meth c H locs ls C => lv_iconst C.1.1 C.1.2.1 hdg hv (k p e s m args below meth c H locs ls C)
theorem g_bipush {k0 : Int} {v : Int32} (hdg : decode cc pc = .ok (.bipush k0, 2)) (hv : (Int8.ofInt k0).toInt32 = v) (k : G l D cy base own cc nL ret R X Z (pc + 2) lv (.int v :: st) cells slots n h) : G l D cy base own cc nL ret R X Z pc lv st cells slots n h := fun p e s m args below meth c H locs ls C => lv_bipush C.1.1 C.1.2.1 hdg hv (k p e s m args below meth c H locs ls C)
theorem g_sipush {k0 : Int} {v : Int32} (hdg : decode cc pc = .ok (.sipush k0, 3)) (hv : (Int16.ofInt k0).toInt32 = v) (k : G l D cy base own cc nL ret R X Z (pc + 3) lv (.int v :: st) cells slots n h) : G l D cy base own cc nL ret R X Z pc lv st cells slots n h := fun p e s m args below meth c H locs ls C => lv_sipush C.1.1 C.1.2.1 hdg hv (k p e s m args below meth c H locs ls C)
theorem g_lconst {k0 : Fin 2} {v : Int64} (hdg : decode cc pc = .ok (.lconst k0, 1)) (hv : Int64.ofNat (k0 : Nat) = v) (k : G l D cy base own cc nL ret R X Z (pc + 1) lv (.long v :: st) cells slots n h) : G l D cy base own cc nL ret R X Z pc lv st cells slots n h := fun p e s m args below meth c H locs ls C => lv_lconst C.1.1 C.1.2.1 hdg hv (k p e s m args below meth c H locs ls C)
theorem g_ldc {idx : Nat} {v : Int32} (hc : Jvm.Cond.constant own idx v ∈ gTbl) (hdg : decode cc pc = .ok (.ldc idx, 2)) (k : G l D cy base own cc nL ret R X Z (pc + 2) lv (.int v :: st) cells slots n h) : G l D cy base own cc nL ret R X Z pc lv st cells slots n h := fun p e s m args below meth c H locs ls C => lv_ldc C.1.1 C.1.2.1 C.1.2.2.2.2.1 (C.1.2.2.2.2.2.1 _ hc) hdg (k p e s m args below meth c H locs ls C)
theorem g_ldcw {idx : Nat} {v : Int32} (hc : Jvm.Cond.constant own idx v ∈ gTbl) (hdg : decode cc pc = .ok (.ldc_w idx, 3)) (k : G l D cy base own cc nL ret R X Z (pc + 3) lv (.int v :: st) cells slots n h) : G l D cy base own cc nL ret R X Z pc lv st cells slots n h := fun p e s m args below meth c H locs ls C => lv_ldcw C.1.1 C.1.2.1 C.1.2.2.2.2.1 (C.1.2.2.2.2.2.1 _ hc) hdg (k p e s m args below meth c H locs ls C)
theorem g_ldc2 {idx : Nat} {v : Int64} (hc : Jvm.Cond.constantLong own idx v ∈ gTbl) (hdg : decode cc pc = .ok (.ldc2_w idx, 3)) (k : G l D cy base own cc nL ret R X Z (pc + 3) lv (.long v :: st) cells slots n h) : G l D cy base own cc nL ret R X Z pc lv st cells slots n h := fun p e s m args below meth c H locs ls C => lv_ldc2 C.1.1 C.1.2.1 C.1.2.2.2.2.1 (C.1.2.2.2.2.2.1 _ hc) hdg (k p e s m args below meth c H locs ls C)
theorem g_dup {va : Value} (hdg : decode cc pc = .ok (.dup, 1)) (hva : va.category = 1) (k : G l D cy base own cc nL ret R X Z (pc + 1) lv (va :: va :: st) cells slots n h) : G l D cy base own cc nL ret R X Z pc lv (va :: st) cells slots n h := fun p e s m args below meth c H locs ls C => lv_dup C.1.1 C.1.2.1 hdg hva (k p e s m args below meth c H locs ls C)
theorem g_pop {va : Value} (hdg : decode cc pc = .ok (.pop, 1)) (hva : va.category = 1) (k : G l D cy base own cc nL ret R X Z (pc + 1) lv st cells slots n h) : G l D cy base own cc nL ret R X Z pc lv (va :: st) cells slots n h := fun p e s m args below meth c H locs ls C => lv_pop C.1.1 C.1.2.1 hdg hva (k p e s m args below meth c H locs ls C)
theorem g_dup2 {va vb : Value} (hdg : decode cc pc = .ok (.dup2, 1)) (hva : va.category = 1) (hvb : vb.category = 1) (k : G l D cy base own cc nL ret R X Z (pc + 1) lv (va :: vb :: va :: vb :: st) cells slots n h) : G l D cy base own cc nL ret R X Z pc lv (va :: vb :: st) cells slots n h := fun p e s m args below meth c H locs ls C => lv_dup2_11 C.1.1 C.1.2.1 hdg hva hvb (k p e s m args below meth c H locs ls C)
theorem g_iload_n {k0 : Fin 4} {i j : Nat} {x : Int32} (hdg : decode cc pc = .ok (.iload_n k0, 1)) (hi : (k0 : Nat) = i) (hk : lv[j]? = some (i, .int x)) (k : G l D cy base own cc nL ret R X Z (pc + 1) lv (.int x :: st) cells slots n h) : G l D cy base own cc nL ret R X Z pc lv st cells slots n h := fun p e s m args below meth c H locs ls C => lv_iload_n C.1.1 C.1.2.1 hdg hi (lv_at C.2.2.2.2.2 j hk) (k p e s m args below meth c H locs ls C)
theorem g_iload {i j : Nat} {x : Int32} (hdg : decode cc pc = .ok (.iload i, 2)) (hk : lv[j]? = some (i, .int x)) (k : G l D cy base own cc nL ret R X Z (pc + 2) lv (.int x :: st) cells slots n h) : G l D cy base own cc nL ret R X Z pc lv st cells slots n h := fun p e s m args below meth c H locs ls C => lv_iload C.1.1 C.1.2.1 hdg (lv_at C.2.2.2.2.2 j hk) (k p e s m args below meth c H locs ls C)
theorem g_aload_n {k0 : Fin 4} {i j : Nat} {x : Nat} (hdg : decode cc pc = .ok (.aload_n k0, 1)) (hi : (k0 : Nat) = i) (hk : lv[j]? = some (i, .ref x)) (k : G l D cy base own cc nL ret R X Z (pc + 1) lv (.ref x :: st) cells slots n h) : G l D cy base own cc nL ret R X Z pc lv st cells slots n h := fun p e s m args below meth c H locs ls C => lv_aload_n C.1.1 C.1.2.1 hdg hi (lv_at C.2.2.2.2.2 j hk) (k p e s m args below meth c H locs ls C)
theorem g_aload {i j : Nat} {x : Nat} (hdg : decode cc pc = .ok (.aload i, 2)) (hk : lv[j]? = some (i, .ref x)) (k : G l D cy base own cc nL ret R X Z (pc + 2) lv (.ref x :: st) cells slots n h) : G l D cy base own cc nL ret R X Z pc lv st cells slots n h := fun p e s m args below meth c H locs ls C => lv_aload C.1.1 C.1.2.1 hdg (lv_at C.2.2.2.2.2 j hk) (k p e s m args below meth c H locs ls C)
theorem g_istore_n {k0 : Fin 4} {i : Nat} {x : Int32} {lvx : List (Nat × Value)} (hdg : decode cc pc = .ok (.istore_n k0, 1)) (hi : (k0 : Nat) = i) (hn : i < nL) (hl : (i, Value.int x) :: lv.filter (fun q => !(q.1 == i) && !(q.1 + 1 == i && q.2.category == 2)) = lvx) (k : G l D cy base own cc nL ret R X Z (pc + 1) lvx st cells slots n h) : G l D cy base own cc nL ret R X Z pc lv (.int x :: st) cells slots n h := fun p e s m args below meth c H locs ls C => lv_istore_n C.1.1 C.1.2.1 hdg hi C.2.2.2.2.2 hn hl (fun lsx hlx => k p e s m args below meth c H locs lsx ⟨C.1, C.2.1, C.2.2.1, C.2.2.2.1, C.2.2.2.2.1, hlx⟩)
theorem g_istore {i : Nat} {x : Int32} {lvx : List (Nat × Value)} (hdg : decode cc pc = .ok (.istore i, 2)) (hn : i < nL) (hl : (i, Value.int x) :: lv.filter (fun q => !(q.1 == i) && !(q.1 + 1 == i && q.2.category == 2)) = lvx) (k : G l D cy base own cc nL ret R X Z (pc + 2) lvx st cells slots n h) : G l D cy base own cc nL ret R X Z pc lv (.int x :: st) cells slots n h := fun p e s m args below meth c H locs ls C => lv_istore C.1.1 C.1.2.1 hdg C.2.2.2.2.2 hn hl (fun lsx hlx => k p e s m args below meth c H locs lsx ⟨C.1, C.2.1, C.2.2.1, C.2.2.2.1, C.2.2.2.2.1, hlx⟩)
theorem g_astore_n {k0 : Fin 4} {i : Nat} {x : Nat} {lvx : List (Nat × Value)} (hdg : decode cc pc = .ok (.astore_n k0, 1)) (hi : (k0 : Nat) = i) (hn : i < nL) (hl : (i, Value.ref x) :: lv.filter (fun q => !(q.1 == i) && !(q.1 + 1 == i && q.2.category == 2)) = lvx) (k : G l D cy base own cc nL ret R X Z (pc + 1) lvx st cells slots n h) : G l D cy base own cc nL ret R X Z pc lv (.ref x :: st) cells slots n h := fun p e s m args below meth c H locs ls C => lv_astore_n C.1.1 C.1.2.1 hdg hi C.2.2.2.2.2 hn hl (fun lsx hlx => k p e s m args below meth c H locs lsx ⟨C.1, C.2.1, C.2.2.1, C.2.2.2.1, C.2.2.2.2.1, hlx⟩)
theorem g_astore {i : Nat} {x : Nat} {lvx : List (Nat × Value)} (hdg : decode cc pc = .ok (.astore i, 2)) (hn : i < nL) (hl : (i, Value.ref x) :: lv.filter (fun q => !(q.1 == i) && !(q.1 + 1 == i && q.2.category == 2)) = lvx) (k : G l D cy base own cc nL ret R X Z (pc + 2) lvx st cells slots n h) : G l D cy base own cc nL ret R X Z pc lv (.ref x :: st) cells slots n h := fun p e s m args below meth c H locs ls C => lv_astore C.1.1 C.1.2.1 hdg C.2.2.2.2.2 hn hl (fun lsx hlx => k p e s m args below meth c H locs lsx ⟨C.1, C.2.1, C.2.2.1, C.2.2.2.1, C.2.2.2.2.1, hlx⟩)
theorem g_iinc {i j : Nat} {k0 : Int} {x v : Int32} {lvx : List (Nat × Value)} (hdg : decode cc pc = .ok (.iinc i k0, 3)) (hk : lv[j]? = some (i, .int x)) (hv : x + Int32.ofInt k0 = v) (hn : i < nL) (hl : (i, Value.int v) :: lv.filter (fun q => !(q.1 == i) && !(q.1 + 1 == i && q.2.category == 2)) = lvx) (k : G l D cy base own cc nL ret R X Z (pc + 3) lvx st cells slots n h) : G l D cy base own cc nL ret R X Z pc lv st cells slots n h := fun p e s m args below meth c H locs ls C => lv_iinc C.1.1 C.1.2.1 hdg C.2.2.2.2.2 hk hv hn hl (fun lsx hlx => k p e s m args below meth c H locs lsx ⟨C.1, C.2.1, C.2.2.1, C.2.2.2.1, C.2.2.2.2.1, hlx⟩)
theorem g_sub {lvx : List (Nat × Value)} (ks : List Nat) (hl : lv_pick lv ks = lvx) (k : G l D cy base own cc nL ret R X Z pc lvx st cells slots n h) : G l D cy base own cc nL ret R X Z pc lv st cells slots n h := fun p e s m args below meth c H locs ls C => k p e s m args below meth c H locs ls ⟨C.1, C.2.1, C.2.2.1, C.2.2.2.1, C.2.2.2.2.1, lv_sub C.2.2.2.2.2 ks hl⟩
theorem g_icmp_eq {x y : Int32} {off : Int} (tgt : Nat) (hdg : decode cc pc = .ok (.if_icmp .eq off, 3)) (ht : (pc : Int) + off = (tgt : Int)) (kt : x = y → G l D cy base own cc nL ret R X Z tgt lv st cells slots n h) (kf : ¬ x = y → G l D cy base own cc nL ret R X Z (pc + 3) lv st cells slots n h) : G l D cy base own cc nL ret R X Z pc lv (.int y :: .int x :: st) cells slots n h := fun p e s m args below meth c H locs ls C => lv_icmp_eq C.1.1 C.1.2.1 hdg ht (fun q => kt q p e s m args below meth c H locs ls C) (fun q => kf q p e s m args below meth c H locs ls C)
theorem g_icmp_ne {x y : Int32} {off : Int} (tgt : Nat) (hdg : decode cc pc = .ok (.if_icmp .ne off, 3)) (ht : (pc : Int) + off = (tgt : Int)) (kt : ¬ x = y → G l D cy base own cc nL ret R X Z tgt lv st cells slots n h) (kf : x = y → G l D cy base own cc nL ret R X Z (pc + 3) lv st cells slots n h) : G l D cy base own cc nL ret R X Z pc lv (.int y :: .int x :: st) cells slots n h := fun p e s m args below meth c H locs ls C => lv_icmp_ne C.1.1 C.1.2.1 hdg ht (fun q => kt q p e s m args below meth c H locs ls C) (fun q => kf q p e s m args below meth c H locs ls C)
theorem g_icmp_lt {x y : Int32} {off : Int} (tgt : Nat) (hdg : decode cc pc = .ok (.if_icmp .lt off, 3)) (ht : (pc : Int) + off = (tgt : Int)) (kt : x < y → G l D cy base own cc nL ret R X Z tgt lv st cells slots n h) (kf : ¬ x < y → G l D cy base own cc nL ret R X Z (pc + 3) lv st cells slots n h) : G l D cy base own cc nL ret R X Z pc lv (.int y :: .int x :: st) cells slots n h := fun p e s m args below meth c H locs ls C => lv_icmp_lt C.1.1 C.1.2.1 hdg ht (fun q => kt q p e s m args below meth c H locs ls C) (fun q => kf q p e s m args below meth c H locs ls C)
theorem g_icmp_ge {x y : Int32} {off : Int} (tgt : Nat) (hdg : decode cc pc = .ok (.if_icmp .ge off, 3)) (ht : (pc : Int) + off = (tgt : Int)) (kt : y ≤ x → G l D cy base own cc nL ret R X Z tgt lv st cells slots n h) (kf : ¬ y ≤ x → G l D cy base own cc nL ret R X Z (pc + 3) lv st cells slots n h) : G l D cy base own cc nL ret R X Z pc lv (.int y :: .int x :: st) cells slots n h := fun p e s m args below meth c H locs ls C => lv_icmp_ge C.1.1 C.1.2.1 hdg ht (fun q => kt q p e s m args below meth c H locs ls C) (fun q => kf q p e s m args below meth c H locs ls C)
theorem g_icmp_gt {x y : Int32} {off : Int} (tgt : Nat) (hdg : decode cc pc = .ok (.if_icmp .gt off, 3)) (ht : (pc : Int) + off = (tgt : Int)) (kt : y < x → G l D cy base own cc nL ret R X Z tgt lv st cells slots n h) (kf : ¬ y < x → G l D cy base own cc nL ret R X Z (pc + 3) lv st cells slots n h) : G l D cy base own cc nL ret R X Z pc lv (.int y :: .int x :: st) cells slots n h := fun p e s m args below meth c H locs ls C => lv_icmp_gt C.1.1 C.1.2.1 hdg ht (fun q => kt q p e s m args below meth c H locs ls C) (fun q => kf q p e s m args below meth c H locs ls C)
theorem g_icmp_le {x y : Int32} {off : Int} (tgt : Nat) (hdg : decode cc pc = .ok (.if_icmp .le off, 3)) (ht : (pc : Int) + off = (tgt : Int)) (kt : x ≤ y → G l D cy base own cc nL ret R X Z tgt lv st cells slots n h) (kf : ¬ x ≤ y → G l D cy base own cc nL ret R X Z (pc + 3) lv st cells slots n h) : G l D cy base own cc nL ret R X Z pc lv (.int y :: .int x :: st) cells slots n h := fun p e s m args below meth c H locs ls C => lv_icmp_le C.1.1 C.1.2.1 hdg ht (fun q => kt q p e s m args below meth c H locs ls C) (fun q => kf q p e s m args below meth c H locs ls C)
theorem g_if_eq {x : Int32} {off : Int} (tgt : Nat) (hdg : decode cc pc = .ok (.ifCond .eq off, 3)) (ht : (pc : Int) + off = (tgt : Int)) (kt : x = 0 → G l D cy base own cc nL ret R X Z tgt lv st cells slots n h) (kf : ¬ x = 0 → G l D cy base own cc nL ret R X Z (pc + 3) lv st cells slots n h) : G l D cy base own cc nL ret R X Z pc lv (.int x :: st) cells slots n h := fun p e s m args below meth c H locs ls C => lv_if_eq C.1.1 C.1.2.1 hdg ht (fun q => kt q p e s m args below meth c H locs ls C) (fun q => kf q p e s m args below meth c H locs ls C)
theorem g_if_ne {x : Int32} {off : Int} (tgt : Nat) (hdg : decode cc pc = .ok (.ifCond .ne off, 3)) (ht : (pc : Int) + off = (tgt : Int)) (kt : ¬ x = 0 → G l D cy base own cc nL ret R X Z tgt lv st cells slots n h) (kf : x = 0 → G l D cy base own cc nL ret R X Z (pc + 3) lv st cells slots n h) : G l D cy base own cc nL ret R X Z pc lv (.int x :: st) cells slots n h := fun p e s m args below meth c H locs ls C => lv_if_ne C.1.1 C.1.2.1 hdg ht (fun q => kt q p e s m args below meth c H locs ls C) (fun q => kf q p e s m args below meth c H locs ls C)
theorem g_if_lt {x : Int32} {off : Int} (tgt : Nat) (hdg : decode cc pc = .ok (.ifCond .lt off, 3)) (ht : (pc : Int) + off = (tgt : Int)) (kt : x < 0 → G l D cy base own cc nL ret R X Z tgt lv st cells slots n h) (kf : ¬ x < 0 → G l D cy base own cc nL ret R X Z (pc + 3) lv st cells slots n h) : G l D cy base own cc nL ret R X Z pc lv (.int x :: st) cells slots n h := fun p e s m args below meth c H locs ls C => lv_if_lt C.1.1 C.1.2.1 hdg ht (fun q => kt q p e s m args below meth c H locs ls C) (fun q => kf q p e s m args below meth c H locs ls C)
theorem g_if_ge {x : Int32} {off : Int} (tgt : Nat) (hdg : decode cc pc = .ok (.ifCond .ge off, 3)) (ht : (pc : Int) + off = (tgt : Int)) (kt : 0 ≤ x → G l D cy base own cc nL ret R X Z tgt lv st cells slots n h) (kf : ¬ 0 ≤ x → G l D cy base own cc nL ret R X Z (pc + 3) lv st cells slots n h) : G l D cy base own cc nL ret R X Z pc lv (.int x :: st) cells slots n h := fun p e s m args below meth c H locs ls C => lv_if_ge C.1.1 C.1.2.1 hdg ht (fun q => kt q p e s m args below meth c H locs ls C) (fun q => kf q p e s m args below meth c H locs ls C)
theorem g_if_gt {x : Int32} {off : Int} (tgt : Nat) (hdg : decode cc pc = .ok (.ifCond .gt off, 3)) (ht : (pc : Int) + off = (tgt : Int)) (kt : 0 < x → G l D cy base own cc nL ret R X Z tgt lv st cells slots n h) (kf : ¬ 0 < x → G l D cy base own cc nL ret R X Z (pc + 3) lv st cells slots n h) : G l D cy base own cc nL ret R X Z pc lv (.int x :: st) cells slots n h := fun p e s m args below meth c H locs ls C => lv_if_gt C.1.1 C.1.2.1 hdg ht (fun q => kt q p e s m args below meth c H locs ls C) (fun q => kf q p e s m args below meth c H locs ls C)
theorem g_if_le {x : Int32} {off : Int} (tgt : Nat) (hdg : decode cc pc = .ok (.ifCond .le off, 3)) (ht : (pc : Int) + off = (tgt : Int)) (kt : x ≤ 0 → G l D cy base own cc nL ret R X Z tgt lv st cells slots n h) (kf : ¬ x ≤ 0 → G l D cy base own cc nL ret R X Z (pc + 3) lv st cells slots n h) : G l D cy base own cc nL ret R X Z pc lv (.int x :: st) cells slots n h := fun p e s m args below meth c H locs ls C => lv_if_le C.1.1 C.1.2.1 hdg ht (fun q => kt q p e s m args below meth c H locs ls C) (fun q => kf q p e s m args below meth c H locs ls C)
theorem g_goto {off : Int} (tgt : Nat) (hdg : decode cc pc = .ok (.goto off, 3)) (ht : (pc : Int) + off = (tgt : Int)) (k : G l D cy base own cc nL ret R X Z tgt lv st cells slots n h) : G l D cy base own cc nL ret R X Z pc lv st cells slots n h := fun p e s m args below meth c H locs ls C => lv_goto C.1.1 C.1.2.1 hdg ht (k p e s m args below meth c H locs ls C)
theorem g_tableIn {dflt lo hi : Int} {offs : Array Int} {len : Nat} {x : Int32} {off : Int} (tgt : Nat) (hdg : decode cc pc = .ok (.tableswitch dflt lo hi offs, len)) (h1 : ¬ x.toInt < lo) (h2 : ¬ hi < x.toInt) (ho : offs[(x.toInt - lo).toNat]? = some off) (ht : (pc : Int) + off = (tgt : Int)) (k : G l D cy base own cc nL ret R X Z tgt lv st cells slots n h) : G l D cy base own cc nL ret R X Z pc lv (.int x :: st) cells slots n h := fun p e s m args below meth c H locs ls C => lv_tableIn C.1.1 C.1.2.1 hdg h1 h2 ho ht (k p e s m args below meth c H locs ls C)
theorem g_tableOut {dflt lo hi : Int} {offs : Array Int} {len : Nat} {x : Int32} (tgt : Nat) (hdg : decode cc pc = .ok (.tableswitch dflt lo hi offs, len)) (h1 : x.toInt < lo ∨ hi < x.toInt) (ht : (pc : Int) + dflt = (tgt : Int)) (k : G l D cy base own cc nL ret R X Z tgt lv st cells slots n h) : G l D cy base own cc nL ret R X Z pc lv (.int x :: st) cells slots n h := fun p e s m args below meth c H locs ls C => lv_tableOut C.1.1 C.1.2.1 hdg h1 ht (k p e s m args below meth c H locs ls C)
theorem g_lookup {dflt : Int} {ps : Array (Int × Int)} {len : Nat} {x : Int32} {off : Int} (tgt : Nat) (hdg : decode cc pc = .ok (.lookupswitch dflt ps, len)) (hp : (ps.toList.zip (ps.toList.drop 1)).all (fun (a, next) => a.1 < next.1) = true) (ho : Op.lookupswitch.offset ps.toList dflt x.toInt = off) (ht : (pc : Int) + off = (tgt : Int)) (k : G l D cy base own cc nL ret R X Z tgt lv st cells slots n h) : G l D cy base own cc nL ret R X Z pc lv (.int x :: st) cells slots n h := fun p e s m args below meth c H locs ls C => lv_lookup C.1.1 C.1.2.1 hdg hp ho ht (k p e s m args below meth c H locs ls C)
/-- the word of a field's link: pool place idx of own names the field j of the kind ci -/
def gLk (own : String) (idx ci j : Nat) : Prop := ∃ (Cn : String) (T : u_T) (N : Nat) (ty0 : Nat → FieldType), vwCl[ci]? = some (Cn, T, N) ∧ j < N ∧ Cond.fieldLink own idx (T j).1 (T j).2.1 (T j).2.2.1 ∈ gTbl ∧ (∀ w ∈ u_ws Cn T N, w ∈ gTbl) ∧ (∀ k, k < N → parseFieldDescriptor (T k).2.2.1 = some (ty0 k)) ∧ (∀ a, a < N → ∀ b, b < N → a ≠ b → (T a).2.1 ≠ (T b).2.1)
/-- .. and the field isn't final, and is of the type ty -/
def gLw (own : String) (idx ci j : Nat) (ty : FieldType) : Prop := ∃ (Cn : String) (T : u_T) (N : Nat) (ty0 : Nat → FieldType), vwCl[ci]? = some (Cn, T, N) ∧ j < N ∧ Cond.fieldLink own idx (T j).1 (T j).2.1 (T j).2.2.1 ∈ gTbl ∧ (∀ w ∈ u_ws Cn T N, w ∈ gTbl) ∧ (∀ k, k < N → parseFieldDescriptor (T k).2.2.1 = some (ty0 k)) ∧ (∀ a, a < N → ∀ b, b < N → a ≠ b → (T a).2.1 ≠ (T b).2.1) ∧ (T j).2.2.2 = false ∧ parseFieldDescriptor (T j).2.2.1 = some ty
theorem g_get {idx ci j k0 : Nat} {fs : List Value} {v : Value} (hlk : gLk own idx ci j) (hk : k0 < n) (hh : h k0 = .inr (ci, fs)) (hv : fs[j]? = some v) (hdg : decode cc pc = .ok (.getfield idx, 3)) (k : G l D cy base own cc nL ret R X Z (pc + 3) lv (v :: st) cells slots n h) : G l D cy base own cc nL ret R X Z pc lv (.ref (base + k0) :: st) cells slots n h := by
  intro p e s m args below meth c H locs ls C
  obtain ⟨Cn, T, N, ty0, hc, hj, hl, hin, -, -⟩ := hlk
  exact va_get C.1.1 C.1.2.1 C.1.2.2.2.2.2.1 hin C.1.2.2.2.2.1 C.2.1.1 C.2.2.2.1 k0 (by rw [gW_at hk, hh]) hc j hj (C.1.2.2.2.2.2.1 _ hl) (fun _ h9 => h9) hv hdg (k p e s m args below meth c H locs ls C)
theorem g_put {idx ci j k0 : Nat} {fs : List Value} {v : Value} {ty : FieldType} (hlk : gLw own idx ci j ty) (hk : k0 < n) (hh : h k0 = .inr (ci, fs)) (hn : narrow ty v = v) (hfit : fits ty v = true) (hlt : j < fs.length) (hdg : decode cc pc = .ok (.putfield idx, 3)) (k : G l D cy base own cc nL ret R X Z (pc + 3) lv st cells slots n (va_up h k0 (.inr (ci, fs.set j v)))) : G l D cy base own cc nL ret R X Z pc lv (v :: .ref (base + k0) :: st) cells slots n h := by
  intro p e s m args below meth c H locs ls C
  obtain ⟨Cn, T, N, ty0, hc, hj, hl, hin, hty, hnm, hfin, hd⟩ := hlk
  have he : (gW base n h)[k0]? = some (base + k0, .inr (ci, fs)) := by rw [gW_at hk, hh]
  have hap := va_apart (own := own) C.1.2.2.2.2.2.1 hin ty0 hty hnm C.2.1.1 hc
  obtain ⟨r, h1, cell, q1, q2, q3, q4⟩ := C.2.2.2.1 k0 _ he
  have hr : r = (Cn, T, N) := Option.some.inj (h1.symm.trans hc)
  subst hr
  obtain ⟨hS, hfc, kC, hkC, hkind⟩ := C.2.1.1.1 ci _ hc
  obtain ⟨cf, kf, fi, f, hi, hsl⟩ := hS j hj
  have hlay := C.1.2.2.2.2.2.1 _ (hin _ (u_in_lay hj))
  unfold u_lay at hlay
  rw [if_neg (by rw [hfin]; decide)] at hlay
  have hst := (u_facts hfc hkC (u_lays C.1.2.2.2.2.2.1 hin hj) hi).1
  have h6 := u_store hfc hkC hkind hlay hi hd hn hfit
  refine W.putK C.1.1 C.1.2.1 (f := f) ⟨C.1.2.2.2.2.1, C.1.2.2.2.2.2.1 _ hl, ⟨_, _, _, hi⟩, hst⟩ (by rw [q2]; exact h6) q1 q3 (by rw [hsl]; exact k2_hasslot (q4 j hj)) rfl rfl hdg fun H' e1 e2 e3 => ?_
  rw [hsl] at e1 ⊢
  have hP1 := va_P.set C.2.2.2.1 gW_D he (e := .inr (ci, fs.set j v)) ⟨_, hc, t_OB.to (V := updV (vp_V fs) j v) ⟨_, e1, q2, q3, t_set q4 hap hj v⟩ (fun i _ => vp_updV_set hlt v i)⟩ e3
  rw [gW_set] at hP1
  exact k p e s m args below meth c H' _ ls ⟨C.1, C.2.1, (C.2.2.1.imp_right fun z => e2.trans z), hP1, (C.2.2.2.2.1.put e2 e3 (gW_D.2 k0 _ he)), C.2.2.2.2.2⟩
theorem g_iald {k0 N0 : Nat} {f : Nat → Int32} {i : Int32} (hk : k0 < n) (hh : h k0 = .inl (cy 0, N0, .inl f)) (hin : vp_in i N0) (hdg : decode cc pc = .ok (.iaload, 1)) (k : G l D cy base own cc nL ret R X Z (pc + 1) lv (.int (f i.toNatClampNeg) :: st) cells slots n h) : G l D cy base own cc nL ret R X Z pc lv (.int i :: .ref (base + k0) :: st) cells slots n h := by
  intro p e s m args below meth c H locs ls C
  exact va_iald C.1.1 C.1.2.1 C.2.1.1 C.2.2.2.1 k0 0 (by rw [gW_at hk, hh]) rfl hin hdg (k p e s m args below meth c H locs ls C)
theorem g_zald {k0 N0 : Nat} {f : Nat → Int32} {i : Int32} (hk : k0 < n) (hh : h k0 = .inl (cy 1, N0, .inl f)) (hin : vp_in i N0) (hdg : decode cc pc = .ok (.baload, 1)) (k : G l D cy base own cc nL ret R X Z (pc + 1) lv (.int (f i.toNatClampNeg) :: st) cells slots n h) : G l D cy base own cc nL ret R X Z pc lv (.int i :: .ref (base + k0) :: st) cells slots n h := by
  intro p e s m args below meth c H locs ls C
  exact va_zald C.1.1 C.1.2.1 C.2.1.1 C.2.2.2.1 k0 1 (by rw [gW_at hk, hh]) rfl hin hdg (k p e s m args below meth c H locs ls C)
theorem g_aald {k0 N0 t0 : Nat} {f : Nat → Option Nat} {ty : FieldType} {i : Int32} {a : Nat} (hk : k0 < n) (hh : h k0 = .inl (cy t0, N0, .inr (.inr (.inr (.inr f))))) (ht : (gT cy)[t0]? = some (cy t0, ty)) (hty : ty.isReference = true) (hin : vp_in i N0) (ha : f i.toNatClampNeg = some a) (hdg : decode cc pc = .ok (.aaload, 1)) (k : G l D cy base own cc nL ret R X Z (pc + 1) lv (.ref a :: st) cells slots n h) : G l D cy base own cc nL ret R X Z pc lv (.int i :: .ref (base + k0) :: st) cells slots n h := by
  intro p e s m args below meth c H locs ls C
  have hlt : i.toNatClampNeg < N0 := Nat.not_le.mp fun q => hin (Or.inr q)
  have hcell : H[base + k0]? = some (vp_cell (cy t0) (N0, .inr (.inr (.inr (.inr f))))) := C.2.2.2.1 k0 (base + k0, .inl (cy t0, N0, .inr (.inr (.inr (.inr f))))) (by rw [gW_at hk, hh])
  exact W.aald (v := .ref a) (ty := ty) C.1.1 C.1.2.1 hcell ((C.2.1.1.2 t0 _ ht).1 N0 (fun j => va_rf (f j))) hty (fun q => by cases q) (by show ¬ (i < 0 ∨ (arrV _ _ _).slots.size ≤ _); rw [arrV_size]; exact hin) (by show (arrV _ _ _).slots[_]? = _; rw [arrV_read _ _ hlt, ha]; rfl) rfl rfl hdg (k p e s m args below meth c H locs ls C)
theorem g_alen {k0 t0 : Nat} {x : vp_A} {ty : FieldType} {v : Int32} (hk : k0 < n) (hh : h k0 = .inl (cy t0, x)) (ht : (gT cy)[t0]? = some (cy t0, ty)) (hv : Int32.ofNat x.1 = v) (hdg : decode cc pc = .ok (.arraylength, 1)) (k : G l D cy base own cc nL ret R X Z (pc + 1) lv (.int v :: st) cells slots n h) : G l D cy base own cc nL ret R X Z pc lv (.ref (base + k0) :: st) cells slots n h := by
  intro p e s m args below meth c H locs ls C
  exact va_alen C.1.1 C.1.2.1 C.2.1.1 C.2.2.2.1 k0 t0 (by rw [gW_at hk, hh]) ht hv hdg (k p e s m args below meth c H locs ls C)
theorem g_iast {k0 N0 : Nat} {f : Nat → Int32} {i x : Int32} (hk : k0 < n) (hh : h k0 = .inl (cy 0, N0, .inl f)) (hin : vp_in i N0) (hdg : decode cc pc = .ok (.iastore, 1)) (k : G l D cy base own cc nL ret R X Z (pc + 1) lv st cells slots n (va_up h k0 (.inl (cy 0, N0, .inl (upd f i.toNatClampNeg x))))) : G l D cy base own cc nL ret R X Z pc lv (.int x :: .int i :: .ref (base + k0) :: st) cells slots n h := by
  intro p e s m args below meth c H locs ls C
  have ha : (gW base n h)[k0]? = some (base + k0, .inl (cy 0, N0, .inl f)) := by rw [gW_at hk, hh]
  refine W.iast C.1.1 C.1.2.1 (C.2.2.2.1 k0 _ ha) ((C.2.1.1.2 0 _ rfl).1 N0 (fun j => .int (f j))) (fun q => by cases q) (by show ¬ (i < 0 ∨ (arrV _ _ _).slots.size ≤ _); rw [arrV_size]; exact hin) rfl rfl hdg fun H1 e1 z oq => ?_
  have hP1 := va_P.set C.2.2.2.1 gW_D ha (e := .inl (cy 0, N0, .inl (upd f i.toNatClampNeg x))) (H1 := H1) (by
    show H1[base + k0]? = some (vp_cell _ _)
    rw [e1]
    rw [vp_cell_i, vp_cell_i, arrV_store]
    congr 2
    funext q
    by_cases hq : q = i.toNatClampNeg
    · subst hq
      simp [updV, upd]
    · simp [updV, upd, hq]) oq
  rw [gW_set] at hP1
  exact k p e s m args below meth c H1 _ ls ⟨C.1, C.2.1, (C.2.2.1.imp_right fun q => z.trans q), hP1, (C.2.2.2.2.1.put z oq (gW_D.2 k0 _ ha)), C.2.2.2.2.2⟩
theorem g_zast {k0 N0 : Nat} {f : Nat → Int32} {i x : Int32} (hnn : n = gNN) (hk : k0 < n) (hh : h k0 = .inl (cy 1, N0, .inl f)) (hin : vp_in i N0) (hdg : decode cc pc = .ok (.bastore, 1)) (k : G l D cy base own cc nL ret R X Z (pc + 1) lv st cells slots n (va_up h k0 (.inl (cy 1, N0, .inl (upd f i.toNatClampNeg (vp_nar .boolean x)))))) : G l D cy base own cc nL ret R X Z pc lv (.int x :: .int i :: .ref (base + k0) :: st) cells slots n h := by
  intro p e s m args below meth c H locs ls C
  refine va_zast C.1.1 C.1.2.1 C.2.1.1 C.2.2.2.1 gW_D C.2.2.2.2.1 k0 1 (by rw [gW_at hk, hh]) rfl hin hdg (fun H1 locs1 hP1 _ hS1 => ?_)
  rw [gW_set] at hP1
  exact k p e s m args below meth c H1 _ ls ⟨C.1, C.2.1, (Or.inl hnn), hP1, hS1, C.2.2.2.2.2⟩
theorem g_copy {idx k0 k1 N0 N1 : Nat} {f f1 : Nat → Int32} {sp dp cn : Int32} (hnn : n = gNN) (hlink : Cond.methodLink own idx arraycopyName ∈ gTbl) (hk0 : k0 < n) (hh0 : h k0 = .inl (cy 0, N0, .inl f)) (hk1 : k1 < n) (hh1 : h k1 = .inl (cy 0, N1, .inl f1)) (h1 : ¬ sp < 0) (h2 : ¬ dp < 0) (h3 : ¬ cn < 0) (h4 : sp.toNatClampNeg + cn.toNatClampNeg ≤ N0) (h5 : dp.toNatClampNeg + cn.toNatClampNeg ≤ N1)
    (hframes : 1 ≤ R.frames) (hlocals : (st.map fun v => v.category).sum + (nativeFrameWords "java/lang/System" "arraycopy" 5 + 11) ≤ R.locals) (hdg : decode cc pc = .ok (.invokestatic idx, 3)) (k : G l D cy base own cc nL ret R X Z (pc + 3) lv st cells slots n (va_up h k1 (.inl (cy 0, N1, .inl (va_cpy f f1 sp.toNatClampNeg dp.toNatClampNeg cn.toNatClampNeg))))) : G l D cy base own cc nL ret R X Z pc lv (.int cn :: .int dp :: .ref (base + k1) :: .int sp :: .ref (base + k0) :: st) cells slots n h := by
  intro p e s m args below meth c H locs ls C
  refine va_copyi C.1.1 C.1.2.1 (C.1.2.2.2.1.trans C.2.2.2.2.2.1.symm) C.1.2.2.2.2.1 (C.1.2.2.2.2.2.1 _ hlink) (C.1.2.2.2.2.2.1 _ (by decide +kernel)) (C.1.2.2.2.2.2.1 _ (by decide +kernel)) (C.1.2.2.2.2.2.1 _ (by decide +kernel)) C.2.1.1 C.2.2.2.1 gW_D C.2.2.2.2.1 k0 k1 0 0 (by rw [gW_at hk0, hh0]) (by rw [gW_at hk1, hh1]) rfl rfl rfl h1 h2 h3 h4 h5 (fun i _ => rfl) hframes hlocals hdg (fun H1 locs1 hP1 _ hS1 => ?_)
  rw [gW_set] at hP1
  exact k p e s m args below meth c H1 _ ls ⟨C.1, C.2.1, (Or.inl hnn), hP1, hS1, C.2.2.2.2.2⟩
/-- the state at a method's two ends -/
def gPre (D : va_G) (cy : Nat → ClassId) (base n : Nat) (h : Nat → va_E) (U : State) : Prop := va_K D vwCl (gT cy) U ∧ gBd U ∧ base ≤ U.heap.size ∧ (n = gNN ∨ U.heap.size = base + n) ∧ va_P D vwCl (gW base n h) U.heap
def gQ (D : va_G) (cy : Nat → ClassId) (base : Nat) (rv : Option Value) (n : Nat) (h : Nat → va_E) : Array Value → State → Outcome → State → Prop := fun _ st oc t => oc = .returned rv ∧ gPre D cy base n h t ∧ va_F (gA base) st t
def gZm (D : va_G) (cy : Nat → ClassId) (base mc ms : Nat) (rv : Option Value) (n : Nat) (h : Nat → va_E) : gZ := fun below args s => MQ below (gQ D cy base rv n h) args s mc ms (gA base)
def gWs (y : MethodName) (cc : ByteArray) (nL : Nat) (ret : Option FieldType) : List Cond := Cond.code y cc nL ret :: gTbl
def gMet (l : Launch) (D : va_G) (cy : Nat → ClassId) (base : Nat) (y : MethodName) (cc : ByteArray) (nL : Nat) (ret : Option FieldType) (rm : Room) (args : List Value) (n : Nat) (h : Nat → va_E) (mc ms : Nat) (rv : Option Value) (n1 : Nat) (h1 : Nat → va_E) : Prop :=
  Met l y (gWs y cc nL ret) rm (va_Pc args (gPre D cy base n h)) (gQ D cy base rv n1 h1) mc ms (gA base)
def gXm (y : MethodName) : gX := fun _ _ meth => meth.name = y.name
theorem g_iret {v : Int32} (hr : ret = some .int) (hdg : decode cc pc = .ok (.ireturn, 1)) : G l D cy base own cc nL ret R X (gZm D cy base cells slots (some (.int v)) n h) pc lv [.int v] cells slots n h := by
  intro p e s m args below meth c H locs ls C
  exact W.iret C.1.1 C.1.2.1 (C.1.2.2.1.trans hr)  (fun t ht hW => ⟨rfl, ⟨va_K.moved hW.alike C.2.1.1, C.2.1.2.2.2.warm hW, by rw [ht]; exact Nat.le_trans C.2.1.2.1 C.2.2.2.2.1.1, by rw [ht]; exact C.2.2.1, by rw [ht]; exact C.2.2.2.1⟩, C.2.2.2.2.1.F ht⟩) C.2.2.2.2.1.2.2 hdg C.1.2.2.2.2.2.2
theorem g_zret {v : Int32} (hv : narrow .boolean (.int v) = .int v) (hr : ret = some .boolean) (hdg : decode cc pc = .ok (.ireturn, 1)) : G l D cy base own cc nL ret R X (gZm D cy base cells slots (some (.int v)) n h) pc lv [.int v] cells slots n h := by
  intro p e s m args below meth c H locs ls C
  exact W.zret C.1.1 C.1.2.1 (C.1.2.2.1.trans hr) hv (fun t ht hW => ⟨rfl, ⟨va_K.moved hW.alike C.2.1.1, C.2.1.2.2.2.warm hW, by rw [ht]; exact Nat.le_trans C.2.1.2.1 C.2.2.2.2.1.1, by rw [ht]; exact C.2.2.1, by rw [ht]; exact C.2.2.2.1⟩, C.2.2.2.2.1.F ht⟩) C.2.2.2.2.1.2.2 hdg C.1.2.2.2.2.2.2
theorem g_lret {v : Int64} (hr : ret = some .long) (hdg : decode cc pc = .ok (.lreturn, 1)) : G l D cy base own cc nL ret R X (gZm D cy base cells slots (some (.long v)) n h) pc lv [.long v] cells slots n h := by
  intro p e s m args below meth c H locs ls C
  exact W.lret C.1.1 C.1.2.1 (C.1.2.2.1.trans hr)  (fun t ht hW => ⟨rfl, ⟨va_K.moved hW.alike C.2.1.1, C.2.1.2.2.2.warm hW, by rw [ht]; exact Nat.le_trans C.2.1.2.1 C.2.2.2.2.1.1, by rw [ht]; exact C.2.2.1, by rw [ht]; exact C.2.2.2.1⟩, C.2.2.2.2.1.F ht⟩) C.2.2.2.2.1.2.2 hdg C.1.2.2.2.2.2.2
theorem g_vret  (hr : ret = none) (hdg : decode cc pc = .ok (.return_, 1)) : G l D cy base own cc nL ret R X (gZm D cy base cells slots (none) n h) pc lv [] cells slots n h := by
  intro p e s m args below meth c H locs ls C
  exact W.vret C.1.1 C.1.2.1 (C.1.2.2.1.trans hr)  (fun t ht hW => ⟨rfl, ⟨va_K.moved hW.alike C.2.1.1, C.2.1.2.2.2.warm hW, by rw [ht]; exact Nat.le_trans C.2.1.2.1 C.2.2.2.2.1.1, by rw [ht]; exact C.2.2.1, by rw [ht]; exact C.2.2.2.1⟩, C.2.2.2.2.1.F ht⟩) C.2.2.2.2.1.2.2 hdg C.1.2.2.2.2.2.2
theorem gMet_of {y : MethodName} {rm : Room} {args : List Value} {mc ms : Nat} {rv : Option Value} {n1 : Nat} {h1 : Nat → va_E} {lv0 : List (Nat × Value)} (hy : plainName y.cls = true) (hn : (lg_sl args).length ≤ nL) (hlv : lv_args 0 args = lv0)
    (hG : G l D cy base y.cls cc nL ret rm (gXm y) (gZm D cy base mc ms rv n1 h1) 0 lv0 [] 0 0 n h) : gMet l D cy base y cc nL ret rm args n h mc ms rv n1 h1 := by
  refine Met.ofW (cc := cc) (maxL := nL) (ret := ret) hy rfl ?_
  intro p e s m av below meth c s₁ B hml hv
  obtain ⟨rfl, hK, hBd, hb, hz, hP⟩ := hv
  subst hlv
  have hts := atoms_spec (ws := gWs y cc nL ret) B.pre
  rw [lg_entry_eq]
  exact hG p e s m args.toArray below meth c s.heap [] _ ⟨⟨B.exec, B.bytes, B.returns, hml, findClass_of_methodNamed B.named, fun w hw => hts w (List.mem_cons_of_mem _ hw), B.notSynchronized⟩, ⟨hK, hb, (name_of_methodNamed B.named B.method).1, hBd⟩, hz, hP, va_S.rf, lv_entry args hn⟩
theorem gGood : ∀ w ∈ gTbl, goodWord w = true := fun w h => (List.mem_filter.mp h).2
/-- a call's words: pool place idx of own names the method y -/
def gCl (own : String) (idx : Nat) (y : MethodName) (cc : ByteArray) (nL : Nat) (ret : Option FieldType) (k : Nat) : Prop := Cond.methodLink own idx y ∈ gTbl ∧ Cond.code y cc nL ret ∈ gTbl ∧ Cond.initialized y.cls ∈ gTbl ∧ (y.cls ≠ "java/lang/invoke/MethodHandle" ∧ y.cls ≠ "java/lang/invoke/VarHandle") ∧ (parseMethodDescriptor y.desc).map (fun d => d.parameters.length) = some k
def gCn (own : String) (idx : Nat) (y : MethodName) (host : String) (cc : ByteArray) (nL : Nat) (ret : Option FieldType) (k : Nat) : Prop := (own, idx, y, host) ∈ gNest ∧ Cond.code y cc nL ret ∈ gTbl ∧ Cond.initialized y.cls ∈ gTbl ∧ (y.cls ≠ "java/lang/invoke/MethodHandle" ∧ y.cls ≠ "java/lang/invoke/VarHandle") ∧ (parseMethodDescriptor y.desc).map (fun d => d.parameters.length) = some k
theorem gWs_good {y : MethodName} {cc : ByteArray} {nL : Nat} {ret : Option FieldType} (h : Cond.code y cc nL ret ∈ gTbl) : GoodIn gTbl (gWs y cc nL ret) := fun w hw => (List.mem_cons.mp hw).elim (fun e => by subst e; exact ⟨h, good_of_word (gGood _ h)⟩) (fun h2 => ⟨h2, good_of_word (gGood _ h2)⟩)
theorem gPre_blind {D : va_G} {cy : Nat → ClassId} {base n : Nat} {h : Nat → va_E} {av : List Value} : FrameBlind (va_Pc av (gPre D cy base n h)) := fun a U g mk q => by
  obtain ⟨q0, qK, qB, q1, q2, q3⟩ := q
  exact ⟨q0, va_K.moved (u := U) (U := U.calling g mk a) (Vm.Alike.refl U.vm) qK, ⟨fun x hx => va_Nw.same rfl (show U.vm = (U.calling g mk a).vm from rfl) (qB.1 x hx), qB.2.1.moved (Vm.Alike.refl U.vm), qB.2.2.moved (Vm.Alike.refl U.vm)⟩, q1, q2, q3⟩
/-- behind a call -/
theorem g_goOn {p : Program} {l : Launch} {e : Env} {R : Room} {s : State} {m : MethodId} {args : Array Value} {below : List Frame} {meth : Method} {c : Code} {H : Heap} {locs : List Loc} {cells slots mc ms : Nat} {Q : State → Prop} {pc : Nat} {ls : Array Slot} {rest st0 : List Value} {a : Array Value} {D : va_G} {cy : Nat → ClassId} {base n1 : Nat} {h1 : Nat → va_E} {rv : Option Value} (hr : va_Run p l e R s m args below meth c H locs cells slots mc ms (F0 m pc ls st0) rest (gQ D cy base rv n1 h1 a) (gA base)) (hS : va_S (gA base) s.heap H locs)
    (kk : ∀ (H1 : Heap) (locs1 : List Loc), (n1 = gNN ∨ H1.size = base + n1) → va_P D vwCl (gW base n1 h1) H1 → va_S (gA base) s.heap H1 locs1 → W p l e R s m args below meth c H1 locs1 (cells + mc) (slots + ms) Q (F0 m (pc + 3) ls (rv.toList ++ rest))) : W p l e R s m args below meth c H locs cells slots Q (F0 m pc ls st0) := by
  intro T hT X
  obtain ⟨v, st₀, t, T', L, h0, X', hL, e1, e2, ⟨hv, ⟨-, -, -, hz1, hP1⟩, hz, hk⟩, st⟩ := hr T hT X
  cases hv
  rw [h0] at hz hk
  obtain ⟨t2, a1, b1⟩ := kk T'.heap (locs ++ L) (by rw [e1]; exact hz1) (by rw [e1]; exact hP1)
    ⟨Nat.le_trans hS.1 (by rw [e1]; exact hz), fun q h1 h2 => by rw [e1, hk q (Nat.lt_of_lt_of_le h1 hS.1) h2]; exact hS.2.1 q h1 h2, fun q hq => by
      rcases List.mem_append.mp hq with h | h
      · exact hS.2.2 q h
      · exact hL q h⟩ T' rfl X'
  exact ⟨t2, st t2 a1, b1⟩
theorem g_callV {y : MethodName} {bytes : ByteArray} {maxL idx k0 : Nat} {rt : Option FieldType} {rm : Room} {mc ms n1 : Nat} {h1 : Nat → va_E} {rv : Option Value} {As : List Value} {kr ci : Nat} {fs : List Value} {qc : vw_C} (hM : gMet l D cy base y bytes maxL rt rm (.ref (base + kr) :: As) n h mc ms rv n1 h1) (hcl : gCl own idx y bytes maxL rt k0) (hsel : Cond.instanceMethod y ∈ gTbl ∧ Cond.selects y.cls y y ∈ gTbl) (hkr : kr < n) (hhr : h kr = .inr (ci, fs)) (hc : vwCl[ci]? = some qc) (hq : qc.1 = y.cls) (hrc : rm.cells = mc) (hrs : rm.slots = ms) (hR : rm.frames + 1 ≤ R.frames ∧ 8 + (maxL + 11) + rm.locals ≤ R.locals) (hrest : (st.map fun v => v.category).sum ≤ 8) (hf : cells + mc ≤ R.cells ∧ slots + ms ≤ R.slots) (hn : As.length = k0) (hdg : decode cc pc = .ok (.invokevirtual idx, 3)) {st0 : List Value} (hst : st0 = As.reverse ++ .ref (base + kr) :: st) (k : G l D cy base own cc nL ret R X Z (pc + 3) lv (rv.toList ++ st) (cells + mc) (slots + ms) n1 h1) : G l D cy base own cc nL ret R X Z pc lv st0 cells slots n h := by
  intro p e s m args below meth c H locs ls C
  subst hst
  exact g_goOn (va_runV (As := As) (rest := st) ⟨C.1.1, C.1.2.1, C.1.2.2.2.1, C.1.2.2.2.2.1, C.1.2.2.2.2.2.1⟩ hM ⟨callB_of k0 C.1.2.2.2.2.2.1 (gWs_good hcl.2.1) rfl hrc hrs (C.1.2.2.2.2.2.1 _ hcl.2.2.1) (C.1.2.2.2.2.2.1 _ hcl.1) ⟨hcl.2.2.2.1.1, hcl.2.2.2.1.2, hcl.2.2.2.2⟩ hR, C.1.2.2.2.2.2.1 _ hsel.1, C.1.2.2.2.2.2.1 _ hsel.2⟩ ⟨gPre_blind, hq ▸ va_recv C.2.1.1 C.2.2.2.1 (ci := ci) (q0 := kr) hc (by rw [gW_at hkr, hhr]), (fun U hU hW => ⟨rfl, va_K.moved hW.alike C.2.1.1, C.2.1.2.2.2.warm hW, by rw [hU]; exact Nat.le_trans C.2.1.2.1 C.2.2.2.2.1.1, by rw [hU]; exact C.2.2.1, by rw [hU]; exact C.2.2.2.1⟩)⟩ rfl hn C.2.2.2.2.2.1 rfl (lv_room hrest) hdg hf) C.2.2.2.2.1 (fun H1 locs1 hz1 hP1 hS1 => k p e s m args below meth c H1 locs1 ls ⟨C.1, C.2.1, hz1, hP1, hS1, C.2.2.2.2.2⟩)
theorem g_callS {y : MethodName} {bytes : ByteArray} {maxL idx k0 : Nat} {rt : Option FieldType} {rm : Room} {mc ms n1 : Nat} {h1 : Nat → va_E} {rv : Option Value} {As : List Value}  (hM : gMet l D cy base y bytes maxL rt rm As n h mc ms rv n1 h1) (hcl : gCl own idx y bytes maxL rt k0) (hsel : Cond.static y ∈ gTbl) (hrc : rm.cells = mc) (hrs : rm.slots = ms) (hR : rm.frames + 1 ≤ R.frames ∧ 8 + (maxL + 11) + rm.locals ≤ R.locals) (hrest : (st.map fun v => v.category).sum ≤ 8) (hf : cells + mc ≤ R.cells ∧ slots + ms ≤ R.slots) (hn : As.length = k0) (hdg : decode cc pc = .ok (.invokestatic idx, 3)) {st0 : List Value} (hst : st0 = As.reverse ++ st) (k : G l D cy base own cc nL ret R X Z (pc + 3) lv (rv.toList ++ st) (cells + mc) (slots + ms) n1 h1) : G l D cy base own cc nL ret R X Z pc lv st0 cells slots n h := by
  intro p e s m args below meth c H locs ls C
  subst hst
  exact g_goOn (va_runS (As := As) (rest := st) ⟨C.1.1, C.1.2.1, C.1.2.2.2.1, C.1.2.2.2.2.1, C.1.2.2.2.2.2.1⟩ hM ⟨callB_of k0 C.1.2.2.2.2.2.1 (gWs_good hcl.2.1) rfl hrc hrs (C.1.2.2.2.2.2.1 _ hcl.2.2.1) (C.1.2.2.2.2.2.1 _ hcl.1) ⟨hcl.2.2.2.1.1, hcl.2.2.2.1.2, hcl.2.2.2.2⟩ hR, C.1.2.2.2.2.2.1 _ hsel⟩ ⟨gPre_blind, (fun U hU hW => ⟨rfl, va_K.moved hW.alike C.2.1.1, C.2.1.2.2.2.warm hW, by rw [hU]; exact Nat.le_trans C.2.1.2.1 C.2.2.2.2.1.1, by rw [hU]; exact C.2.2.1, by rw [hU]; exact C.2.2.2.1⟩)⟩ rfl hn C.2.2.2.2.2.1 rfl (lv_room hrest) hdg hf) C.2.2.2.2.1 (fun H1 locs1 hz1 hP1 hS1 => k p e s m args below meth c H1 locs1 ls ⟨C.1, C.2.1, hz1, hP1, hS1, C.2.2.2.2.2⟩)
theorem g_callI {y : MethodName} {bytes : ByteArray} {maxL idx k0 : Nat} {rt : Option FieldType} {rm : Room} {mc ms n1 : Nat} {h1 : Nat → va_E} {rv : Option Value} {As : List Value} {kr : Nat} (hM : gMet l D cy base y bytes maxL none rm (.ref (base + kr) :: As) n h mc ms rv n1 h1) (hcl : gCl own idx y bytes maxL none k0) (hsel : Cond.instanceMethod y ∈ gTbl) (hnm : y.name = "<init>") (hrc : rm.cells = mc) (hrs : rm.slots = ms) (hR : rm.frames + 1 ≤ R.frames ∧ 8 + (maxL + 11) + rm.locals ≤ R.locals) (hrest : (st.map fun v => v.category).sum ≤ 8) (hf : cells + mc ≤ R.cells ∧ slots + ms ≤ R.slots) (hn : As.length = k0) (hdg : decode cc pc = .ok (.invokespecial idx, 3)) {st0 : List Value} (hst : st0 = As.reverse ++ .ref (base + kr) :: st) (k : G l D cy base own cc nL ret R X Z (pc + 3) lv (rv.toList ++ st) (cells + mc) (slots + ms) n1 h1) : G l D cy base own cc nL ret R X Z pc lv st0 cells slots n h := by
  intro p e s m args below meth c H locs ls C
  subst hst
  exact g_goOn (va_runI (As := As) (rest := st) ⟨C.1.1, C.1.2.1, C.1.2.2.2.1, C.1.2.2.2.2.1, C.1.2.2.2.2.2.1⟩ hM ⟨callB_of k0 C.1.2.2.2.2.2.1 (gWs_good hcl.2.1) rfl hrc hrs (C.1.2.2.2.2.2.1 _ hcl.2.2.1) (C.1.2.2.2.2.2.1 _ hcl.1) ⟨hcl.2.2.2.1.1, hcl.2.2.2.1.2, hcl.2.2.2.2⟩ hR, hnm, C.1.2.2.2.2.2.1 _ hsel⟩ ⟨gPre_blind, (fun U hU hW => ⟨rfl, va_K.moved hW.alike C.2.1.1, C.2.1.2.2.2.warm hW, by rw [hU]; exact Nat.le_trans C.2.1.2.1 C.2.2.2.2.1.1, by rw [hU]; exact C.2.2.1, by rw [hU]; exact C.2.2.2.1⟩)⟩ rfl hn C.2.2.2.2.2.1 rfl (lv_room hrest) hdg hf) C.2.2.2.2.1 (fun H1 locs1 hz1 hP1 hS1 => k p e s m args below meth c H1 locs1 ls ⟨C.1, C.2.1, hz1, hP1, hS1, C.2.2.2.2.2⟩)
theorem g_callSN {y : MethodName} {bytes : ByteArray} {maxL idx k0 : Nat} {rt : Option FieldType} {rm : Room} {mc ms n1 : Nat} {h1 : Nat → va_E} {rv : Option Value} {As : List Value}  (hM : gMet l D cy base y bytes maxL rt rm As n h mc ms rv n1 h1) {host : String} (hcl : gCn own idx y host bytes maxL rt k0) (hsel : Cond.static y ∈ gTbl) (hrc : rm.cells = mc) (hrs : rm.slots = ms) (hR : rm.frames + 1 ≤ R.frames ∧ 8 + (maxL + 11) + rm.locals ≤ R.locals) (hrest : (st.map fun v => v.category).sum ≤ 8) (hf : cells + mc ≤ R.cells ∧ slots + ms ≤ R.slots) (hn : As.length = k0) (hdg : decode cc pc = .ok (.invokestatic idx, 3)) {st0 : List Value} (hst : st0 = As.reverse ++ st) (k : G l D cy base own cc nL ret R X Z (pc + 3) lv (rv.toList ++ st) (cells + mc) (slots + ms) n1 h1) : G l D cy base own cc nL ret R X Z pc lv st0 cells slots n h := by
  intro p e s m args below meth c H locs ls C
  subst hst
  exact g_goOn (va_runSN (As := As) (rest := st) ⟨C.1.1, C.1.2.1, C.1.2.2.2.1, C.1.2.2.2.2.1, C.1.2.2.2.2.2.1⟩ hM ⟨va_cnB k0 C.1.2.2.2.2.2.1 (gWs_good hcl.2.1) rfl hrc hrs (C.2.1.2.2.2.1 _ hcl.1) (C.1.2.2.2.2.2.1 _ hcl.2.2.1) ⟨hcl.2.2.2.1.1, hcl.2.2.2.1.2, hcl.2.2.2.2⟩ hR, C.1.2.2.2.2.2.1 _ hsel, trivial⟩ ⟨gPre_blind, (fun U hU hW => ⟨rfl, va_K.moved hW.alike C.2.1.1, C.2.1.2.2.2.warm hW, by rw [hU]; exact Nat.le_trans C.2.1.2.1 C.2.2.2.2.1.1, by rw [hU]; exact C.2.2.1, by rw [hU]; exact C.2.2.2.1⟩)⟩ rfl hn C.2.2.2.2.2.1 rfl (lv_room hrest) hdg hf) C.2.2.2.2.1 (fun H1 locs1 hz1 hP1 hS1 => k p e s m args below meth c H1 locs1 ls ⟨C.1, C.2.1, hz1, hP1, hS1, C.2.2.2.2.2⟩)
theorem g_callIN {y : MethodName} {bytes : ByteArray} {maxL idx k0 : Nat} {rt : Option FieldType} {rm : Room} {mc ms n1 : Nat} {h1 : Nat → va_E} {rv : Option Value} {As : List Value} {kr : Nat} (hM : gMet l D cy base y bytes maxL none rm (.ref (base + kr) :: As) n h mc ms rv n1 h1) {host : String} (hcl : gCn own idx y host bytes maxL none k0) (hsel : Cond.instanceMethod y ∈ gTbl) (hnm : y.name = "<init>") (hrc : rm.cells = mc) (hrs : rm.slots = ms) (hR : rm.frames + 1 ≤ R.frames ∧ 8 + (maxL + 11) + rm.locals ≤ R.locals) (hrest : (st.map fun v => v.category).sum ≤ 8) (hf : cells + mc ≤ R.cells ∧ slots + ms ≤ R.slots) (hn : As.length = k0) (hdg : decode cc pc = .ok (.invokespecial idx, 3)) {st0 : List Value} (hst : st0 = As.reverse ++ .ref (base + kr) :: st) (k : G l D cy base own cc nL ret R X Z (pc + 3) lv (rv.toList ++ st) (cells + mc) (slots + ms) n1 h1) : G l D cy base own cc nL ret R X Z pc lv st0 cells slots n h := by
  intro p e s m args below meth c H locs ls C
  subst hst
  exact g_goOn (va_runIN (As := As) (rest := st) ⟨C.1.1, C.1.2.1, C.1.2.2.2.1, C.1.2.2.2.2.1, C.1.2.2.2.2.2.1⟩ hM ⟨va_cnB k0 C.1.2.2.2.2.2.1 (gWs_good hcl.2.1) rfl hrc hrs (C.2.1.2.2.2.1 _ hcl.1) (C.1.2.2.2.2.2.1 _ hcl.2.2.1) ⟨hcl.2.2.2.1.1, hcl.2.2.2.1.2, hcl.2.2.2.2⟩ hR, hnm, C.1.2.2.2.2.2.1 _ hsel⟩ ⟨gPre_blind, (fun U hU hW => ⟨rfl, va_K.moved hW.alike C.2.1.1, C.2.1.2.2.2.warm hW, by rw [hU]; exact Nat.le_trans C.2.1.2.1 C.2.2.2.2.1.1, by rw [hU]; exact C.2.2.1, by rw [hU]; exact C.2.2.2.1⟩)⟩ rfl hn C.2.2.2.2.2.1 rfl (lv_room hrest) hdg hf) C.2.2.2.2.1 (fun H1 locs1 hz1 hP1 hS1 => k p e s m args below meth c H1 locs1 ls ⟨C.1, C.2.1, hz1, hP1, hS1, C.2.2.2.2.2⟩)
end GRows
end
section
/-! The memory: int fields by place and field, arrays by place, a long by place, and the places of the plan and of the draft. -/
abbrev Mem : Type := (Nat → Nat → Int32) × (Nat → Nat → Int32) × (Nat → Int64) × Nat × Nat
def gi (μ : Mem) (k j : Nat) : Int32 := μ.1 k j
def ga (μ : Mem) (k : Nat) : Nat → Int32 := μ.2.1 k
def gl (μ : Mem) (k : Nat) : Int64 := μ.2.2.1 k
def gpl (μ : Mem) : Nat := μ.2.2.2.1
def gdr (μ : Mem) : Nat := μ.2.2.2.2
def si (μ : Mem) (k j : Nat) (v : Int32) : Mem := (va_up μ.1 k (va_up (μ.1 k) j v), μ.2)
def sA (μ : Mem) (k : Nat) (f : Nat → Int32) : Mem := (μ.1, va_up μ.2.1 k f, μ.2.2)
def sl (μ : Mem) (k : Nat) (v : Int64) : Mem := (μ.1, μ.2.1, va_up μ.2.2.1 k v, μ.2.2.2)
def spl (μ : Mem) (p : Nat) : Mem := (μ.1, μ.2.1, μ.2.2.1, p, μ.2.2.2.2)
def sdr (μ : Mem) (p : Nat) : Mem := (μ.1, μ.2.1, μ.2.2.1, μ.2.2.2.1, p)
def ck (i : Int32) (n : Nat) : Bool := decide (0 ≤ i) && decide (i.toNatClampNeg < n)
theorem ck_in {i : Int32} {n : Nat} (h : ck i n = true) : vp_in i n := by
  simp only [ck, Bool.and_eq_true, decide_eq_true_eq] at h
  intro q
  rcases q with q | q
  · exact Int32.not_lt.mpr h.1 q
  · omega
def ldA (μ : Mem) (k n : Nat) (i : Int32) : Option Int32 := if ck i n then some (ga μ k i.toNatClampNeg) else none
def stA (μ : Mem) (k n : Nat) (i v : Int32) : Option Mem := if ck i n then some (sA μ k (upd (ga μ k) i.toNatClampNeg v)) else none
def stZ (μ : Mem) (k n : Nat) (i v : Int32) : Option Mem := if ck i n then some (sA μ k (upd (ga μ k) i.toNatClampNeg (vp_nar .boolean v))) else none
def stI (μ : Mem) (k j : Nat) (v : Int32) : Option Mem := some (si μ k j v)
def stL (μ : Mem) (k : Nat) (v : Int64) : Option Mem := some (sl μ k v)
def dvI (x y : Int32) : Option Int32 := if y = 0 then none else some (x / y)
def rmI (x y : Int32) : Option Int32 := if y = 0 then none else some (x - x / y * y)
def cpA (μ : Mem) (k0 n0 : Nat) (sp : Int32) (k1 n1 : Nat) (dp cn : Int32) : Option Mem := if (decide (0 ≤ sp) && decide (0 ≤ dp) && decide (0 ≤ cn) && decide (sp.toNatClampNeg + cn.toNatClampNeg ≤ n0) && decide (dp.toNatClampNeg + cn.toNatClampNeg ≤ n1)) then some (sA μ k1 (va_cpy (ga μ k0) (ga μ k1) sp.toNatClampNeg dp.toNatClampNeg cn.toNatClampNeg)) else none
/-- a reference out of an array of references -/
def rfA (k n st : Nat) (i : Int32) (ok : Nat → Bool) : Option Nat := if ck i n && ok (k + 1 + st * i.toNatClampNeg) then some (k + 1 + st * i.toNatClampNeg) else none
def rfG (q : Nat) (ok : Nat → Bool) : Option Nat := if ok q then some q else none
def iter {V E : Type} : Nat → (V → Option (V ⊕ E)) → V → Option E
  | 0, _, _ => none
  | n + 1, B, v => match B v with
    | none => none
    | some (.inl v2) => iter n B v2
    | some (.inr x) => some x
def gFU : Nat := 1000000000000
theorem iter_ind {V E : Type} {B : V → Option (V ⊕ E)} (Gv : V → Prop) (Gx : E → Prop) (hs : ∀ v r, B v = some r → (∀ v2, r = .inl v2 → Gv v2) → (∀ x, r = .inr x → Gx x) → Gv v) : ∀ (n : Nat) (v : V) (x : E), iter n B v = some x → Gx x → Gv v
  | 0, v, x, h, _ => by simp [iter] at h
  | n + 1, v, x, h, hx => by
    unfold iter at h
    split at h
    · cases h
    · next v2 e => exact hs v _ e (fun v3 e3 => by cases e3; exact iter_ind Gv Gx hs n v2 x h hx) (fun x e3 => by cases e3)
    · next y e => cases h; exact hs v _ e (fun v3 e3 => by cases e3) (fun x e3 => by cases e3; exact hx)

def isMo (q : Nat) : Bool := [4, 9, 13, 17, 21, 25, 29, 33, 37, 41, 45, 51, 56, 60, 64, 68, 72, 76, 80, 84, 88, 92, 97, 102, 106, 110, 114, 118, 122, 126, 130, 134, 138].contains q
def isLe (q : Nat) : Bool := [3, 50, 96].contains q
def isPl (q : Nat) : Bool := [170, 178].contains q
def isAny (_ : Nat) : Bool := true
def gTs : List ((Nat × List Nat) ⊕ (Nat × Nat × Nat)) := [.inr (0, 0, 0), .inl (4, [4, 0, 0, 0, 0, 0]), .inr (0, 200, 0), .inl (0, [6, 10, 0, 0]), .inl (1, [7, 8, 9, 0, 0]), .inr (0, 7, 0), .inr (0, 7, 0), .inr (0, 49, 0), .inr (3, 10, 4), .inl (1, [12, 13, 14, 0, 0]), .inr (0, 7, 0), .inr (0, 7, 0), .inr (0, 49, 0), .inl (1, [16, 17, 18, 0, 0]), .inr (0, 7, 0), .inr (0, 7, 0), .inr (0, 49, 0), .inl (1, [20, 21, 22, 0, 0]), .inr (0, 7, 0), .inr (0, 7, 0), .inr (0, 49, 0), .inl (1, [24, 25, 26, 0, 0]), .inr (0, 7, 0), .inr (0, 7, 0), .inr (0, 49, 0), .inl (1, [28, 29, 30, 0, 0]), .inr (0, 7, 0), .inr (0, 7, 0), .inr (0, 49, 0), .inl (1, [32, 33, 34, 0, 0]), .inr (0, 7, 0), .inr (0, 7, 0), .inr (0, 49, 0), .inl (1, [36, 37, 38, 0, 0]), .inr (0, 7, 0), .inr (0, 7, 0), .inr (0, 49, 0), .inl (1, [40, 41, 42, 0, 0]), .inr (0, 7, 0), .inr (0, 7, 0), .inr (0, 49, 0), .inl (1, [44, 45, 46, 0, 0]), .inr (0, 7, 0), .inr (0, 7, 0), .inr (0, 49, 0), .inl (1, [48, 49, 50, 0, 0]), .inr (0, 7, 0), .inr (0, 7, 0), .inr (0, 49, 0), .inr (2, 2, 46), .inl (0, [53, 57, 0, 0]), .inl (1, [54, 55, 56, 0, 0]), .inr (0, 7, 0), .inr (0, 7, 0), .inr (0, 49, 0), .inr (3, 10, 4), .inl (1, [59, 60, 61, 0, 0]), .inr (0, 7, 0), .inr (0, 7, 0), .inr (0, 49, 0), .inl (1, [63, 64, 65, 0, 0]), .inr (0, 7, 0), .inr (0, 7, 0), .inr (0, 49, 0), .inl (1, [67, 68, 69, 0, 0]), .inr (0, 7, 0), .inr (0, 7, 0), .inr (0, 49, 0), .inl (1, [71, 72, 73, 0, 0]), .inr (0, 7, 0), .inr (0, 7, 0), .inr (0, 49, 0), .inl (1, [75, 76, 77, 0, 0]), .inr (0, 7, 0), .inr (0, 7, 0), .inr (0, 49, 0), .inl (1, [79, 80, 81, 0, 0]), .inr (0, 7, 0), .inr (0, 7, 0), .inr (0, 49, 0), .inl (1, [83, 84, 85, 0, 0]), .inr (0, 7, 0), .inr (0, 7, 0), .inr (0, 49, 0), .inl (1, [87, 88, 89, 0, 0]), .inr (0, 7, 0), .inr (0, 7, 0), .inr (0, 49, 0), .inl (1, [91, 92, 93, 0, 0]), .inr (0, 7, 0), .inr (0, 7, 0), .inr (0, 49, 0), .inl (1, [95, 96, 97, 0, 0]), .inr (0, 7, 0), .inr (0, 7, 0), .inr (0, 49, 0), .inl (0, [99, 103, 0, 0]), .inl (1, [100, 101, 102, 0, 0]), .inr (0, 7, 0), .inr (0, 7, 0), .inr (0, 49, 0), .inr (3, 10, 4), .inl (1, [105, 106, 107, 0, 0]), .inr (0, 7, 0), .inr (0, 7, 0), .inr (0, 49, 0), .inl (1, [109, 110, 111, 0, 0]), .inr (0, 7, 0), .inr (0, 7, 0), .inr (0, 49, 0), .inl (1, [113, 114, 115, 0, 0]), .inr (0, 7, 0), .inr (0, 7, 0), .inr (0, 49, 0), .inl (1, [117, 118, 119, 0, 0]), .inr (0, 7, 0), .inr (0, 7, 0), .inr (0, 49, 0), .inl (1, [121, 122, 123, 0, 0]), .inr (0, 7, 0), .inr (0, 7, 0), .inr (0, 49, 0), .inl (1, [125, 126, 127, 0, 0]), .inr (0, 7, 0), .inr (0, 7, 0), .inr (0, 49, 0), .inl (1, [129, 130, 131, 0, 0]), .inr (0, 7, 0), .inr (0, 7, 0), .inr (0, 49, 0), .inl (1, [133, 134, 135, 0, 0]), .inr (0, 7, 0), .inr (0, 7, 0), .inr (0, 49, 0), .inl (1, [137, 138, 139, 0, 0]), .inr (0, 7, 0), .inr (0, 7, 0), .inr (0, 49, 0), .inl (1, [141, 142, 143, 0, 0]), .inr (0, 7, 0), .inr (0, 7, 0), .inr (0, 49, 0), .inr (1, 2, 0), .inl (7, [146]), .inr (0, 7, 0), .inl (2, [148, 149, 150, 158]), .inr (0, 10, 0), .inr (0, 1000, 0), .inr (4, 7, 1), .inr (0, 13, 0), .inr (0, 13, 0), .inr (0, 13, 0), .inr (0, 13, 0), .inr (0, 13, 0), .inr (0, 13, 0), .inr (0, 13, 0), .inr (4, 8, 1), .inr (0, 100, 0), .inr (0, 100, 0), .inr (0, 100, 0), .inr (0, 100, 0), .inr (0, 100, 0), .inr (0, 100, 0), .inr (0, 100, 0), .inr (0, 100, 0), .inl (5, [168, 169, 0, 0, 0]), .inr (0, 49, 0), .inr (0, 7, 0), .inl (6, [171, 0, 0, 0]), .inr (0, 11, 0), .inl (3, [173, 174, 175, 176, 177, 178, 179, 0, 0, 0, 0, 0, 0]), .inr (0, 7, 0), .inr (0, 7, 0), .inr (0, 7, 0), .inr (0, 7, 0), .inr (0, 5, 0), .inr (0, 5, 0), .inr (0, 5, 0), .inl (3, [181, 182, 183, 184, 185, 186, 187, 0, 0, 0, 0, 0, 0]), .inr (0, 7, 0), .inr (0, 7, 0), .inr (0, 7, 0), .inr (0, 7, 0), .inr (0, 5, 0), .inr (0, 5, 0), .inr (0, 5, 0), .inl (9, [1, 189, 0, 190, 191, 192, 193, 194, 0, 0, 0, 0, 195, 196, 197, 198, 199, 200]), .inr (0, 200, 0), .inr (0, 49, 0), .inr (0, 49, 0), .inr (0, 716, 0), .inr (0, 1432, 0), .inr (1, 2, 0), .inr (0, 49, 0), .inr (0, 8, 0), .inr (0, 7, 0), .inr (0, 1000, 0), .inr (0, 800, 0), .inr (0, 800, 0)]
def gTb (a b k : Nat) : (Nat × List Nat) ⊕ (Nat × Nat × Nat) := match k with
  | 0 => .inl (8, [3, 5, 51, 144, 145, 147, 167, 170, a + 2, b + 2, 1])
  | k + 1 => gTs.getD (k + 1) (.inr (0, 0, 0))
def gF (base : Nat) (μ : Mem) (k : Nat) : List Nat → Nat → List Value
  | [], _ => []
  | 0 :: cs, j => .int (gi μ k j) :: gF base μ k cs (j + 1)
  | 1 :: cs, j => .long (gl μ k) :: gF base μ k cs (j + 1)
  | (r + 2) :: cs, j => .ref (base + r) :: gF base μ k cs (j + 1)
def gE (cy : Nat → ClassId) (base : Nat) (μ : Mem) (k : Nat) (t : (Nat × List Nat) ⊕ (Nat × Nat × Nat)) : va_E := match t with
  | .inl q => .inr (q.1, gF base μ k q.2 0)
  | .inr q => match q.2.2 with
    | 0 => .inl (cy q.1, q.2.1, .inl (ga μ k))
    | st + 1 => .inl (cy q.1, q.2.1, .inr (.inr (.inr (.inr (fun i => some (base + (k + 1 + (st + 1) * i)))))))
def gH (cy : Nat → ClassId) (base : Nat) (μ : Mem) (k : Nat) : va_E := gE cy base μ k (gTb (gpl μ) (gdr μ) k)
def gTk (μ : Mem) (k : Nat) (t : (Nat × List Nat) ⊕ (Nat × Nat × Nat)) : Prop := k < gNN ∧ gTb (gpl μ) (gdr μ) k = t
theorem gH_of {cy : Nat → ClassId} {base : Nat} {μ : Mem} {k : Nat} {t : (Nat × List Nat) ⊕ (Nat × Nat × Nat)} (h : gTk μ k t) : gH cy base μ k = gE cy base μ k t := by unfold gH; rw [h.2]
theorem gF_at {base : Nat} {μ : Mem} {k : Nat} : ∀ (cs : List Nat) (j i : Nat), (gF base μ k cs j)[i]? = (cs[i]?).map (fun c => match c with | 0 => .int (gi μ k (j + i)) | 1 => .long (gl μ k) | r + 2 => .ref (base + r))
  | [], _, i => by simp [gF]
  | 0 :: cs, j, 0 => by simp [gF]
  | 1 :: cs, j, 0 => by simp [gF]
  | (r + 2) :: cs, j, 0 => by simp [gF]
  | 0 :: cs, j, i + 1 => by simp only [gF, List.getElem?_cons_succ]; rw [gF_at cs (j + 1) i]; simp [show j + 1 + i = j + (i + 1) by omega]
  | 1 :: cs, j, i + 1 => by simp only [gF, List.getElem?_cons_succ]; rw [gF_at cs (j + 1) i]; simp [show j + 1 + i = j + (i + 1) by omega]
  | (r + 2) :: cs, j, i + 1 => by simp only [gF, List.getElem?_cons_succ]; rw [gF_at cs (j + 1) i]; simp [show j + 1 + i = j + (i + 1) by omega]
theorem gF_len {base : Nat} {μ : Mem} {k : Nat} : ∀ (cs : List Nat) (j : Nat), (gF base μ k cs j).length = cs.length
  | [], _ => rfl
  | 0 :: cs, j => by simp [gF, gF_len cs (j + 1)]
  | 1 :: cs, j => by simp [gF, gF_len cs (j + 1)]
  | (r + 2) :: cs, j => by simp [gF, gF_len cs (j + 1)]
theorem gF_ext {base : Nat} {μ μ2 : Mem} {k : Nat} {cs : List Nat} (h1 : ∀ j, gi μ k j = gi μ2 k j) (h2 : gl μ k = gl μ2 k) : gF base μ k cs 0 = gF base μ2 k cs 0 := by
  apply List.ext_getElem?
  intro i
  rw [gF_at, gF_at, h2]
  congr 1
  funext c
  rw [h1]
theorem gE_ext {cy : Nat → ClassId} {base : Nat} {μ μ2 : Mem} {k : Nat} {t : (Nat × List Nat) ⊕ (Nat × Nat × Nat)} (h1 : ∀ j, gi μ k j = gi μ2 k j) (h2 : gl μ k = gl μ2 k) (h3 : ga μ k = ga μ2 k) : gE cy base μ k t = gE cy base μ2 k t := by
  unfold gE
  cases t with
  | inl q => simp only [gF_ext h1 h2]
  | inr q => simp only [h3]
theorem gH_si {cy : Nat → ClassId} {base : Nat} {μ : Mem} {k j ci : Nat} {cs : List Nat} {v : Int32} (h : gTk μ k (.inl (ci, cs))) (hc : cs[j]? = some 0) : va_up (gH cy base μ) k (.inr (ci, (gF base μ k cs 0).set j (.int v))) = gH cy base (si μ k j v) := by
  funext q
  by_cases hq : q = k
  · subst hq
    have h2 : gTk (si μ q j v) q (.inl (ci, cs)) := h
    rw [gH_of h2]
    simp only [va_up, if_true, gE]
    congr 2
    apply List.ext_getElem?
    intro i
    rw [List.getElem?_set, gF_at, gF_at, gF_len]
    have hlt : j < cs.length := (List.getElem?_eq_some_iff.mp hc).1
    by_cases hi : j = i
    · subst hi
      rw [if_pos rfl, if_pos hlt, hc]
      simp [gi, si, va_up]
    · rw [if_neg hi]
      congr 1
      funext c
      have h3 : ¬ i = j := fun e => hi e.symm
      simp [gi, si, va_up, h3, gl]
  · simp only [va_up, if_neg hq]
    exact gE_ext (fun i => by simp [gi, si, va_up, hq]) rfl rfl
theorem gH_sl {cy : Nat → ClassId} {base : Nat} {μ : Mem} {k j ci : Nat} {cs : List Nat} {v : Int64} (h : gTk μ k (.inl (ci, cs))) (hc : cs[j]? = some 1) (hu : ∀ i, cs[i]? = some 1 → i = j) : va_up (gH cy base μ) k (.inr (ci, (gF base μ k cs 0).set j (.long v))) = gH cy base (sl μ k v) := by
  funext q
  by_cases hq : q = k
  · subst hq
    have h2 : gTk (sl μ q v) q (.inl (ci, cs)) := h
    rw [gH_of h2]
    simp only [va_up, if_true, gE]
    congr 2
    apply List.ext_getElem?
    intro i
    rw [List.getElem?_set, gF_at, gF_at, gF_len]
    have hlt : j < cs.length := (List.getElem?_eq_some_iff.mp hc).1
    by_cases hi : j = i
    · subst hi
      rw [if_pos rfl, if_pos hlt, hc]
      simp [gl, sl, va_up]
    · rw [if_neg hi]
      cases hci : cs[i]? with
      | none => rfl
      | some c =>
        have h9 : ¬ c = 1 := fun e => hi (hu i (by rw [hci, e])).symm
        match c, h9 with
        | 0, _ => simp [gi, sl]
        | 1, h9 => exact absurd rfl h9
        | r + 2, _ => simp
  · simp only [va_up, if_neg hq]
    exact gE_ext (fun i => rfl) (by simp [gl, sl, va_up, hq]) rfl
theorem gH_sA {cy : Nat → ClassId} {base : Nat} {μ : Mem} {k t len : Nat} {f : Nat → Int32} (h : gTk μ k (.inr (t, len, 0))) : va_up (gH cy base μ) k (.inl (cy t, len, .inl f)) = gH cy base (sA μ k f) := by
  funext q
  by_cases hq : q = k
  · subst hq
    have h2 : gTk (sA μ q f) q (.inr (t, len, 0)) := h
    rw [gH_of h2]
    simp [va_up, gE, ga, sA]
  · simp only [va_up, if_neg hq]
    exact gE_ext (fun i => rfl) rfl (by simp [ga, sA, va_up, hq])

theorem gH_spl {cy : Nat → ClassId} {base : Nat} {μ : Mem} {q : Nat} : va_up (gH cy base μ) 0 (.inr (8, (gF base μ 0 ([3, 5, 51, 144, 145, 147, 167, 170, gpl μ + 2, gdr μ + 2, 1]) 0).set 8 (.ref (base + q)))) = gH cy base (spl μ q) := by
  funext k
  match k with
  | 0 => simp [va_up, gH, gE, gTb, gF, spl, gpl, gdr, gl]
  | k + 1 => simp [va_up, gH, gTb]; exact gE_ext (fun i => rfl) rfl rfl
theorem gH_sdr {cy : Nat → ClassId} {base : Nat} {μ : Mem} {q : Nat} : va_up (gH cy base μ) 0 (.inr (8, (gF base μ 0 ([3, 5, 51, 144, 145, 147, 167, 170, gpl μ + 2, gdr μ + 2, 1]) 0).set 9 (.ref (base + q)))) = gH cy base (sdr μ q) := by
  funext k
  match k with
  | 0 => simp [va_up, gH, gE, gTb, gF, sdr, gpl, gdr, gl]
  | k + 1 => simp [va_up, gH, gTb]; exact gE_ext (fun i => rfl) rfl rfl
theorem tk_0 (μ : Mem) : gTk μ 0 (.inl (8, [3, 5, 51, 144, 145, 147, 167, 170, gpl μ + 2, gdr μ + 2, 1])) := ⟨by decide, rfl⟩
theorem tk_1 (μ : Mem) : gTk μ 1 (.inl (4, [4, 0, 0, 0, 0, 0])) := ⟨by decide, rfl⟩
theorem tk_2 (μ : Mem) : gTk μ 2 (.inr (0, 200, 0)) := ⟨by decide, rfl⟩
theorem tk_3 (μ : Mem) : gTk μ 3 (.inl (0, [6, 10, 0, 0])) := ⟨by decide, rfl⟩
theorem tk_4 (μ : Mem) : gTk μ 4 (.inl (1, [7, 8, 9, 0, 0])) := ⟨by decide, rfl⟩
theorem tk_5 (μ : Mem) : gTk μ 5 (.inr (0, 7, 0)) := ⟨by decide, rfl⟩
theorem tk_6 (μ : Mem) : gTk μ 6 (.inr (0, 7, 0)) := ⟨by decide, rfl⟩
theorem tk_7 (μ : Mem) : gTk μ 7 (.inr (0, 49, 0)) := ⟨by decide, rfl⟩
theorem tk_8 (μ : Mem) : gTk μ 8 (.inr (3, 10, 4)) := ⟨by decide, rfl⟩
theorem tk_9 (μ : Mem) : gTk μ 9 (.inl (1, [12, 13, 14, 0, 0])) := ⟨by decide, rfl⟩
theorem tk_10 (μ : Mem) : gTk μ 10 (.inr (0, 7, 0)) := ⟨by decide, rfl⟩
theorem tk_11 (μ : Mem) : gTk μ 11 (.inr (0, 7, 0)) := ⟨by decide, rfl⟩
theorem tk_12 (μ : Mem) : gTk μ 12 (.inr (0, 49, 0)) := ⟨by decide, rfl⟩
theorem tk_13 (μ : Mem) : gTk μ 13 (.inl (1, [16, 17, 18, 0, 0])) := ⟨by decide, rfl⟩
theorem tk_14 (μ : Mem) : gTk μ 14 (.inr (0, 7, 0)) := ⟨by decide, rfl⟩
theorem tk_15 (μ : Mem) : gTk μ 15 (.inr (0, 7, 0)) := ⟨by decide, rfl⟩
theorem tk_16 (μ : Mem) : gTk μ 16 (.inr (0, 49, 0)) := ⟨by decide, rfl⟩
theorem tk_17 (μ : Mem) : gTk μ 17 (.inl (1, [20, 21, 22, 0, 0])) := ⟨by decide, rfl⟩
theorem tk_18 (μ : Mem) : gTk μ 18 (.inr (0, 7, 0)) := ⟨by decide, rfl⟩
theorem tk_19 (μ : Mem) : gTk μ 19 (.inr (0, 7, 0)) := ⟨by decide, rfl⟩
theorem tk_20 (μ : Mem) : gTk μ 20 (.inr (0, 49, 0)) := ⟨by decide, rfl⟩
theorem tk_21 (μ : Mem) : gTk μ 21 (.inl (1, [24, 25, 26, 0, 0])) := ⟨by decide, rfl⟩
theorem tk_22 (μ : Mem) : gTk μ 22 (.inr (0, 7, 0)) := ⟨by decide, rfl⟩
theorem tk_23 (μ : Mem) : gTk μ 23 (.inr (0, 7, 0)) := ⟨by decide, rfl⟩
theorem tk_24 (μ : Mem) : gTk μ 24 (.inr (0, 49, 0)) := ⟨by decide, rfl⟩
theorem tk_25 (μ : Mem) : gTk μ 25 (.inl (1, [28, 29, 30, 0, 0])) := ⟨by decide, rfl⟩
theorem tk_26 (μ : Mem) : gTk μ 26 (.inr (0, 7, 0)) := ⟨by decide, rfl⟩
theorem tk_27 (μ : Mem) : gTk μ 27 (.inr (0, 7, 0)) := ⟨by decide, rfl⟩
theorem tk_28 (μ : Mem) : gTk μ 28 (.inr (0, 49, 0)) := ⟨by decide, rfl⟩
theorem tk_29 (μ : Mem) : gTk μ 29 (.inl (1, [32, 33, 34, 0, 0])) := ⟨by decide, rfl⟩
theorem tk_30 (μ : Mem) : gTk μ 30 (.inr (0, 7, 0)) := ⟨by decide, rfl⟩
theorem tk_31 (μ : Mem) : gTk μ 31 (.inr (0, 7, 0)) := ⟨by decide, rfl⟩
theorem tk_32 (μ : Mem) : gTk μ 32 (.inr (0, 49, 0)) := ⟨by decide, rfl⟩
theorem tk_33 (μ : Mem) : gTk μ 33 (.inl (1, [36, 37, 38, 0, 0])) := ⟨by decide, rfl⟩
theorem tk_34 (μ : Mem) : gTk μ 34 (.inr (0, 7, 0)) := ⟨by decide, rfl⟩
theorem tk_35 (μ : Mem) : gTk μ 35 (.inr (0, 7, 0)) := ⟨by decide, rfl⟩
theorem tk_36 (μ : Mem) : gTk μ 36 (.inr (0, 49, 0)) := ⟨by decide, rfl⟩
theorem tk_37 (μ : Mem) : gTk μ 37 (.inl (1, [40, 41, 42, 0, 0])) := ⟨by decide, rfl⟩
theorem tk_38 (μ : Mem) : gTk μ 38 (.inr (0, 7, 0)) := ⟨by decide, rfl⟩
theorem tk_39 (μ : Mem) : gTk μ 39 (.inr (0, 7, 0)) := ⟨by decide, rfl⟩
theorem tk_40 (μ : Mem) : gTk μ 40 (.inr (0, 49, 0)) := ⟨by decide, rfl⟩
theorem tk_41 (μ : Mem) : gTk μ 41 (.inl (1, [44, 45, 46, 0, 0])) := ⟨by decide, rfl⟩
theorem tk_42 (μ : Mem) : gTk μ 42 (.inr (0, 7, 0)) := ⟨by decide, rfl⟩
theorem tk_43 (μ : Mem) : gTk μ 43 (.inr (0, 7, 0)) := ⟨by decide, rfl⟩
theorem tk_44 (μ : Mem) : gTk μ 44 (.inr (0, 49, 0)) := ⟨by decide, rfl⟩
theorem tk_45 (μ : Mem) : gTk μ 45 (.inl (1, [48, 49, 50, 0, 0])) := ⟨by decide, rfl⟩
theorem tk_46 (μ : Mem) : gTk μ 46 (.inr (0, 7, 0)) := ⟨by decide, rfl⟩
theorem tk_47 (μ : Mem) : gTk μ 47 (.inr (0, 7, 0)) := ⟨by decide, rfl⟩
theorem tk_48 (μ : Mem) : gTk μ 48 (.inr (0, 49, 0)) := ⟨by decide, rfl⟩
theorem tk_49 (μ : Mem) : gTk μ 49 (.inr (2, 2, 46)) := ⟨by decide, rfl⟩
theorem tk_50 (μ : Mem) : gTk μ 50 (.inl (0, [53, 57, 0, 0])) := ⟨by decide, rfl⟩
theorem tk_51 (μ : Mem) : gTk μ 51 (.inl (1, [54, 55, 56, 0, 0])) := ⟨by decide, rfl⟩
theorem tk_52 (μ : Mem) : gTk μ 52 (.inr (0, 7, 0)) := ⟨by decide, rfl⟩
theorem tk_53 (μ : Mem) : gTk μ 53 (.inr (0, 7, 0)) := ⟨by decide, rfl⟩
theorem tk_54 (μ : Mem) : gTk μ 54 (.inr (0, 49, 0)) := ⟨by decide, rfl⟩
theorem tk_55 (μ : Mem) : gTk μ 55 (.inr (3, 10, 4)) := ⟨by decide, rfl⟩
theorem tk_56 (μ : Mem) : gTk μ 56 (.inl (1, [59, 60, 61, 0, 0])) := ⟨by decide, rfl⟩
theorem tk_57 (μ : Mem) : gTk μ 57 (.inr (0, 7, 0)) := ⟨by decide, rfl⟩
theorem tk_58 (μ : Mem) : gTk μ 58 (.inr (0, 7, 0)) := ⟨by decide, rfl⟩
theorem tk_59 (μ : Mem) : gTk μ 59 (.inr (0, 49, 0)) := ⟨by decide, rfl⟩
theorem tk_60 (μ : Mem) : gTk μ 60 (.inl (1, [63, 64, 65, 0, 0])) := ⟨by decide, rfl⟩
theorem tk_61 (μ : Mem) : gTk μ 61 (.inr (0, 7, 0)) := ⟨by decide, rfl⟩
theorem tk_62 (μ : Mem) : gTk μ 62 (.inr (0, 7, 0)) := ⟨by decide, rfl⟩
theorem tk_63 (μ : Mem) : gTk μ 63 (.inr (0, 49, 0)) := ⟨by decide, rfl⟩
theorem tk_64 (μ : Mem) : gTk μ 64 (.inl (1, [67, 68, 69, 0, 0])) := ⟨by decide, rfl⟩
theorem tk_65 (μ : Mem) : gTk μ 65 (.inr (0, 7, 0)) := ⟨by decide, rfl⟩
theorem tk_66 (μ : Mem) : gTk μ 66 (.inr (0, 7, 0)) := ⟨by decide, rfl⟩
theorem tk_67 (μ : Mem) : gTk μ 67 (.inr (0, 49, 0)) := ⟨by decide, rfl⟩
theorem tk_68 (μ : Mem) : gTk μ 68 (.inl (1, [71, 72, 73, 0, 0])) := ⟨by decide, rfl⟩
theorem tk_69 (μ : Mem) : gTk μ 69 (.inr (0, 7, 0)) := ⟨by decide, rfl⟩
theorem tk_70 (μ : Mem) : gTk μ 70 (.inr (0, 7, 0)) := ⟨by decide, rfl⟩
theorem tk_71 (μ : Mem) : gTk μ 71 (.inr (0, 49, 0)) := ⟨by decide, rfl⟩
theorem tk_72 (μ : Mem) : gTk μ 72 (.inl (1, [75, 76, 77, 0, 0])) := ⟨by decide, rfl⟩
theorem tk_73 (μ : Mem) : gTk μ 73 (.inr (0, 7, 0)) := ⟨by decide, rfl⟩
theorem tk_74 (μ : Mem) : gTk μ 74 (.inr (0, 7, 0)) := ⟨by decide, rfl⟩
theorem tk_75 (μ : Mem) : gTk μ 75 (.inr (0, 49, 0)) := ⟨by decide, rfl⟩
theorem tk_76 (μ : Mem) : gTk μ 76 (.inl (1, [79, 80, 81, 0, 0])) := ⟨by decide, rfl⟩
theorem tk_77 (μ : Mem) : gTk μ 77 (.inr (0, 7, 0)) := ⟨by decide, rfl⟩
theorem tk_78 (μ : Mem) : gTk μ 78 (.inr (0, 7, 0)) := ⟨by decide, rfl⟩
theorem tk_79 (μ : Mem) : gTk μ 79 (.inr (0, 49, 0)) := ⟨by decide, rfl⟩
theorem tk_80 (μ : Mem) : gTk μ 80 (.inl (1, [83, 84, 85, 0, 0])) := ⟨by decide, rfl⟩
theorem tk_81 (μ : Mem) : gTk μ 81 (.inr (0, 7, 0)) := ⟨by decide, rfl⟩
theorem tk_82 (μ : Mem) : gTk μ 82 (.inr (0, 7, 0)) := ⟨by decide, rfl⟩
theorem tk_83 (μ : Mem) : gTk μ 83 (.inr (0, 49, 0)) := ⟨by decide, rfl⟩
theorem tk_84 (μ : Mem) : gTk μ 84 (.inl (1, [87, 88, 89, 0, 0])) := ⟨by decide, rfl⟩
theorem tk_85 (μ : Mem) : gTk μ 85 (.inr (0, 7, 0)) := ⟨by decide, rfl⟩
theorem tk_86 (μ : Mem) : gTk μ 86 (.inr (0, 7, 0)) := ⟨by decide, rfl⟩
theorem tk_87 (μ : Mem) : gTk μ 87 (.inr (0, 49, 0)) := ⟨by decide, rfl⟩
theorem tk_88 (μ : Mem) : gTk μ 88 (.inl (1, [91, 92, 93, 0, 0])) := ⟨by decide, rfl⟩
theorem tk_89 (μ : Mem) : gTk μ 89 (.inr (0, 7, 0)) := ⟨by decide, rfl⟩
theorem tk_90 (μ : Mem) : gTk μ 90 (.inr (0, 7, 0)) := ⟨by decide, rfl⟩
theorem tk_91 (μ : Mem) : gTk μ 91 (.inr (0, 49, 0)) := ⟨by decide, rfl⟩
theorem tk_92 (μ : Mem) : gTk μ 92 (.inl (1, [95, 96, 97, 0, 0])) := ⟨by decide, rfl⟩
theorem tk_93 (μ : Mem) : gTk μ 93 (.inr (0, 7, 0)) := ⟨by decide, rfl⟩
theorem tk_94 (μ : Mem) : gTk μ 94 (.inr (0, 7, 0)) := ⟨by decide, rfl⟩
theorem tk_95 (μ : Mem) : gTk μ 95 (.inr (0, 49, 0)) := ⟨by decide, rfl⟩
theorem tk_96 (μ : Mem) : gTk μ 96 (.inl (0, [99, 103, 0, 0])) := ⟨by decide, rfl⟩
theorem tk_97 (μ : Mem) : gTk μ 97 (.inl (1, [100, 101, 102, 0, 0])) := ⟨by decide, rfl⟩
theorem tk_98 (μ : Mem) : gTk μ 98 (.inr (0, 7, 0)) := ⟨by decide, rfl⟩
theorem tk_99 (μ : Mem) : gTk μ 99 (.inr (0, 7, 0)) := ⟨by decide, rfl⟩
theorem tk_100 (μ : Mem) : gTk μ 100 (.inr (0, 49, 0)) := ⟨by decide, rfl⟩
theorem tk_101 (μ : Mem) : gTk μ 101 (.inr (3, 10, 4)) := ⟨by decide, rfl⟩
theorem tk_102 (μ : Mem) : gTk μ 102 (.inl (1, [105, 106, 107, 0, 0])) := ⟨by decide, rfl⟩
theorem tk_103 (μ : Mem) : gTk μ 103 (.inr (0, 7, 0)) := ⟨by decide, rfl⟩
theorem tk_104 (μ : Mem) : gTk μ 104 (.inr (0, 7, 0)) := ⟨by decide, rfl⟩
theorem tk_105 (μ : Mem) : gTk μ 105 (.inr (0, 49, 0)) := ⟨by decide, rfl⟩
theorem tk_106 (μ : Mem) : gTk μ 106 (.inl (1, [109, 110, 111, 0, 0])) := ⟨by decide, rfl⟩
theorem tk_107 (μ : Mem) : gTk μ 107 (.inr (0, 7, 0)) := ⟨by decide, rfl⟩
theorem tk_108 (μ : Mem) : gTk μ 108 (.inr (0, 7, 0)) := ⟨by decide, rfl⟩
theorem tk_109 (μ : Mem) : gTk μ 109 (.inr (0, 49, 0)) := ⟨by decide, rfl⟩
theorem tk_110 (μ : Mem) : gTk μ 110 (.inl (1, [113, 114, 115, 0, 0])) := ⟨by decide, rfl⟩
theorem tk_111 (μ : Mem) : gTk μ 111 (.inr (0, 7, 0)) := ⟨by decide, rfl⟩
theorem tk_112 (μ : Mem) : gTk μ 112 (.inr (0, 7, 0)) := ⟨by decide, rfl⟩
theorem tk_113 (μ : Mem) : gTk μ 113 (.inr (0, 49, 0)) := ⟨by decide, rfl⟩
theorem tk_114 (μ : Mem) : gTk μ 114 (.inl (1, [117, 118, 119, 0, 0])) := ⟨by decide, rfl⟩
theorem tk_115 (μ : Mem) : gTk μ 115 (.inr (0, 7, 0)) := ⟨by decide, rfl⟩
theorem tk_116 (μ : Mem) : gTk μ 116 (.inr (0, 7, 0)) := ⟨by decide, rfl⟩
theorem tk_117 (μ : Mem) : gTk μ 117 (.inr (0, 49, 0)) := ⟨by decide, rfl⟩
theorem tk_118 (μ : Mem) : gTk μ 118 (.inl (1, [121, 122, 123, 0, 0])) := ⟨by decide, rfl⟩
theorem tk_119 (μ : Mem) : gTk μ 119 (.inr (0, 7, 0)) := ⟨by decide, rfl⟩
theorem tk_120 (μ : Mem) : gTk μ 120 (.inr (0, 7, 0)) := ⟨by decide, rfl⟩
theorem tk_121 (μ : Mem) : gTk μ 121 (.inr (0, 49, 0)) := ⟨by decide, rfl⟩
theorem tk_122 (μ : Mem) : gTk μ 122 (.inl (1, [125, 126, 127, 0, 0])) := ⟨by decide, rfl⟩
theorem tk_123 (μ : Mem) : gTk μ 123 (.inr (0, 7, 0)) := ⟨by decide, rfl⟩
theorem tk_124 (μ : Mem) : gTk μ 124 (.inr (0, 7, 0)) := ⟨by decide, rfl⟩
theorem tk_125 (μ : Mem) : gTk μ 125 (.inr (0, 49, 0)) := ⟨by decide, rfl⟩
theorem tk_126 (μ : Mem) : gTk μ 126 (.inl (1, [129, 130, 131, 0, 0])) := ⟨by decide, rfl⟩
theorem tk_127 (μ : Mem) : gTk μ 127 (.inr (0, 7, 0)) := ⟨by decide, rfl⟩
theorem tk_128 (μ : Mem) : gTk μ 128 (.inr (0, 7, 0)) := ⟨by decide, rfl⟩
theorem tk_129 (μ : Mem) : gTk μ 129 (.inr (0, 49, 0)) := ⟨by decide, rfl⟩
theorem tk_130 (μ : Mem) : gTk μ 130 (.inl (1, [133, 134, 135, 0, 0])) := ⟨by decide, rfl⟩
theorem tk_131 (μ : Mem) : gTk μ 131 (.inr (0, 7, 0)) := ⟨by decide, rfl⟩
theorem tk_132 (μ : Mem) : gTk μ 132 (.inr (0, 7, 0)) := ⟨by decide, rfl⟩
theorem tk_133 (μ : Mem) : gTk μ 133 (.inr (0, 49, 0)) := ⟨by decide, rfl⟩
theorem tk_134 (μ : Mem) : gTk μ 134 (.inl (1, [137, 138, 139, 0, 0])) := ⟨by decide, rfl⟩
theorem tk_135 (μ : Mem) : gTk μ 135 (.inr (0, 7, 0)) := ⟨by decide, rfl⟩
theorem tk_136 (μ : Mem) : gTk μ 136 (.inr (0, 7, 0)) := ⟨by decide, rfl⟩
theorem tk_137 (μ : Mem) : gTk μ 137 (.inr (0, 49, 0)) := ⟨by decide, rfl⟩
theorem tk_138 (μ : Mem) : gTk μ 138 (.inl (1, [141, 142, 143, 0, 0])) := ⟨by decide, rfl⟩
theorem tk_139 (μ : Mem) : gTk μ 139 (.inr (0, 7, 0)) := ⟨by decide, rfl⟩
theorem tk_140 (μ : Mem) : gTk μ 140 (.inr (0, 7, 0)) := ⟨by decide, rfl⟩
theorem tk_141 (μ : Mem) : gTk μ 141 (.inr (0, 49, 0)) := ⟨by decide, rfl⟩
theorem tk_142 (μ : Mem) : gTk μ 142 (.inr (1, 2, 0)) := ⟨by decide, rfl⟩
theorem tk_143 (μ : Mem) : gTk μ 143 (.inl (7, [146])) := ⟨by decide, rfl⟩
theorem tk_144 (μ : Mem) : gTk μ 144 (.inr (0, 7, 0)) := ⟨by decide, rfl⟩
theorem tk_145 (μ : Mem) : gTk μ 145 (.inl (2, [148, 149, 150, 158])) := ⟨by decide, rfl⟩
theorem tk_146 (μ : Mem) : gTk μ 146 (.inr (0, 10, 0)) := ⟨by decide, rfl⟩
theorem tk_147 (μ : Mem) : gTk μ 147 (.inr (0, 1000, 0)) := ⟨by decide, rfl⟩
theorem tk_148 (μ : Mem) : gTk μ 148 (.inr (4, 7, 1)) := ⟨by decide, rfl⟩
theorem tk_149 (μ : Mem) : gTk μ 149 (.inr (0, 13, 0)) := ⟨by decide, rfl⟩
theorem tk_150 (μ : Mem) : gTk μ 150 (.inr (0, 13, 0)) := ⟨by decide, rfl⟩
theorem tk_151 (μ : Mem) : gTk μ 151 (.inr (0, 13, 0)) := ⟨by decide, rfl⟩
theorem tk_152 (μ : Mem) : gTk μ 152 (.inr (0, 13, 0)) := ⟨by decide, rfl⟩
theorem tk_153 (μ : Mem) : gTk μ 153 (.inr (0, 13, 0)) := ⟨by decide, rfl⟩
theorem tk_154 (μ : Mem) : gTk μ 154 (.inr (0, 13, 0)) := ⟨by decide, rfl⟩
theorem tk_155 (μ : Mem) : gTk μ 155 (.inr (0, 13, 0)) := ⟨by decide, rfl⟩
theorem tk_156 (μ : Mem) : gTk μ 156 (.inr (4, 8, 1)) := ⟨by decide, rfl⟩
theorem tk_157 (μ : Mem) : gTk μ 157 (.inr (0, 100, 0)) := ⟨by decide, rfl⟩
theorem tk_158 (μ : Mem) : gTk μ 158 (.inr (0, 100, 0)) := ⟨by decide, rfl⟩
theorem tk_159 (μ : Mem) : gTk μ 159 (.inr (0, 100, 0)) := ⟨by decide, rfl⟩
theorem tk_160 (μ : Mem) : gTk μ 160 (.inr (0, 100, 0)) := ⟨by decide, rfl⟩
theorem tk_161 (μ : Mem) : gTk μ 161 (.inr (0, 100, 0)) := ⟨by decide, rfl⟩
theorem tk_162 (μ : Mem) : gTk μ 162 (.inr (0, 100, 0)) := ⟨by decide, rfl⟩
theorem tk_163 (μ : Mem) : gTk μ 163 (.inr (0, 100, 0)) := ⟨by decide, rfl⟩
theorem tk_164 (μ : Mem) : gTk μ 164 (.inr (0, 100, 0)) := ⟨by decide, rfl⟩
theorem tk_165 (μ : Mem) : gTk μ 165 (.inl (5, [168, 169, 0, 0, 0])) := ⟨by decide, rfl⟩
theorem tk_166 (μ : Mem) : gTk μ 166 (.inr (0, 49, 0)) := ⟨by decide, rfl⟩
theorem tk_167 (μ : Mem) : gTk μ 167 (.inr (0, 7, 0)) := ⟨by decide, rfl⟩
theorem tk_168 (μ : Mem) : gTk μ 168 (.inl (6, [171, 0, 0, 0])) := ⟨by decide, rfl⟩
theorem tk_169 (μ : Mem) : gTk μ 169 (.inr (0, 11, 0)) := ⟨by decide, rfl⟩
theorem tk_170 (μ : Mem) : gTk μ 170 (.inl (3, [173, 174, 175, 176, 177, 178, 179, 0, 0, 0, 0, 0, 0])) := ⟨by decide, rfl⟩
theorem tk_171 (μ : Mem) : gTk μ 171 (.inr (0, 7, 0)) := ⟨by decide, rfl⟩
theorem tk_172 (μ : Mem) : gTk μ 172 (.inr (0, 7, 0)) := ⟨by decide, rfl⟩
theorem tk_173 (μ : Mem) : gTk μ 173 (.inr (0, 7, 0)) := ⟨by decide, rfl⟩
theorem tk_174 (μ : Mem) : gTk μ 174 (.inr (0, 7, 0)) := ⟨by decide, rfl⟩
theorem tk_175 (μ : Mem) : gTk μ 175 (.inr (0, 5, 0)) := ⟨by decide, rfl⟩
theorem tk_176 (μ : Mem) : gTk μ 176 (.inr (0, 5, 0)) := ⟨by decide, rfl⟩
theorem tk_177 (μ : Mem) : gTk μ 177 (.inr (0, 5, 0)) := ⟨by decide, rfl⟩
theorem tk_178 (μ : Mem) : gTk μ 178 (.inl (3, [181, 182, 183, 184, 185, 186, 187, 0, 0, 0, 0, 0, 0])) := ⟨by decide, rfl⟩
theorem tk_179 (μ : Mem) : gTk μ 179 (.inr (0, 7, 0)) := ⟨by decide, rfl⟩
theorem tk_180 (μ : Mem) : gTk μ 180 (.inr (0, 7, 0)) := ⟨by decide, rfl⟩
theorem tk_181 (μ : Mem) : gTk μ 181 (.inr (0, 7, 0)) := ⟨by decide, rfl⟩
theorem tk_182 (μ : Mem) : gTk μ 182 (.inr (0, 7, 0)) := ⟨by decide, rfl⟩
theorem tk_183 (μ : Mem) : gTk μ 183 (.inr (0, 5, 0)) := ⟨by decide, rfl⟩
theorem tk_184 (μ : Mem) : gTk μ 184 (.inr (0, 5, 0)) := ⟨by decide, rfl⟩
theorem tk_185 (μ : Mem) : gTk μ 185 (.inr (0, 5, 0)) := ⟨by decide, rfl⟩
theorem tk_186 (μ : Mem) : gTk μ 186 (.inl (9, [1, 189, 0, 190, 191, 192, 193, 194, 0, 0, 0, 0, 195, 196, 197, 198, 199, 200])) := ⟨by decide, rfl⟩
theorem tk_187 (μ : Mem) : gTk μ 187 (.inr (0, 200, 0)) := ⟨by decide, rfl⟩
theorem tk_188 (μ : Mem) : gTk μ 188 (.inr (0, 49, 0)) := ⟨by decide, rfl⟩
theorem tk_189 (μ : Mem) : gTk μ 189 (.inr (0, 49, 0)) := ⟨by decide, rfl⟩
theorem tk_190 (μ : Mem) : gTk μ 190 (.inr (0, 716, 0)) := ⟨by decide, rfl⟩
theorem tk_191 (μ : Mem) : gTk μ 191 (.inr (0, 1432, 0)) := ⟨by decide, rfl⟩
theorem tk_192 (μ : Mem) : gTk μ 192 (.inr (1, 2, 0)) := ⟨by decide, rfl⟩
theorem tk_193 (μ : Mem) : gTk μ 193 (.inr (0, 49, 0)) := ⟨by decide, rfl⟩
theorem tk_194 (μ : Mem) : gTk μ 194 (.inr (0, 8, 0)) := ⟨by decide, rfl⟩
theorem tk_195 (μ : Mem) : gTk μ 195 (.inr (0, 7, 0)) := ⟨by decide, rfl⟩
theorem tk_196 (μ : Mem) : gTk μ 196 (.inr (0, 1000, 0)) := ⟨by decide, rfl⟩
theorem tk_197 (μ : Mem) : gTk μ 197 (.inr (0, 800, 0)) := ⟨by decide, rfl⟩
theorem tk_198 (μ : Mem) : gTk μ 198 (.inr (0, 800, 0)) := ⟨by decide, rfl⟩
theorem gFam {ps : List Nat} (g : Nat → Nat) (e : Nat → (Nat × List Nat) ⊕ (Nat × Nat × Nat)) {q : Nat} {μ : Mem} (h : ∀ p ∈ ps, gTs.getD (g p) (.inr (0, 0, 0)) = e p ∧ 0 < g p ∧ g p < gNN) (hq : ps.contains q = true) : gTk μ (g q) (e q) := by
  obtain ⟨h1, h2, h3⟩ := h q (List.contains_iff_mem.mp hq)
  refine ⟨h3, ?_⟩
  rw [← h1]
  obtain ⟨r, hr⟩ : ∃ r, g q = r + 1 := ⟨g q - 1, by omega⟩
  rw [hr]
  rfl
theorem tkMo_0 {q : Nat} (hq : isMo q = true) (μ : Mem) : gTk μ q (.inl (1, [q + 1 + 2, q + 2 + 2, q + 3 + 2, 0, 0])) := gFam (fun q => q) (fun q => .inl (1, [q + 1 + 2, q + 2 + 2, q + 3 + 2, 0, 0])) (ps := [4, 9, 13, 17, 21, 25, 29, 33, 37, 41, 45, 51, 56, 60, 64, 68, 72, 76, 80, 84, 88, 92, 97, 102, 106, 110, 114, 118, 122, 126, 130, 134, 138]) (by decide +kernel) hq
theorem tkMo_1 {q : Nat} (hq : isMo q = true) (μ : Mem) : gTk μ (q + 1) (.inr (0, 7, 0)) := gFam (fun q => (q + 1)) (fun q => .inr (0, 7, 0)) (ps := [4, 9, 13, 17, 21, 25, 29, 33, 37, 41, 45, 51, 56, 60, 64, 68, 72, 76, 80, 84, 88, 92, 97, 102, 106, 110, 114, 118, 122, 126, 130, 134, 138]) (by decide +kernel) hq
theorem tkMo_2 {q : Nat} (hq : isMo q = true) (μ : Mem) : gTk μ (q + 2) (.inr (0, 7, 0)) := gFam (fun q => (q + 2)) (fun q => .inr (0, 7, 0)) (ps := [4, 9, 13, 17, 21, 25, 29, 33, 37, 41, 45, 51, 56, 60, 64, 68, 72, 76, 80, 84, 88, 92, 97, 102, 106, 110, 114, 118, 122, 126, 130, 134, 138]) (by decide +kernel) hq
theorem tkMo_3 {q : Nat} (hq : isMo q = true) (μ : Mem) : gTk μ (q + 3) (.inr (0, 49, 0)) := gFam (fun q => (q + 3)) (fun q => .inr (0, 49, 0)) (ps := [4, 9, 13, 17, 21, 25, 29, 33, 37, 41, 45, 51, 56, 60, 64, 68, 72, 76, 80, 84, 88, 92, 97, 102, 106, 110, 114, 118, 122, 126, 130, 134, 138]) (by decide +kernel) hq
theorem tkPl_0 {q : Nat} (hq : isPl q = true) (μ : Mem) : gTk μ q (.inl (3, [q + 1 + 2, q + 2 + 2, q + 3 + 2, q + 4 + 2, q + 5 + 2, q + 6 + 2, q + 7 + 2, 0, 0, 0, 0, 0, 0])) := gFam (fun q => q) (fun q => .inl (3, [q + 1 + 2, q + 2 + 2, q + 3 + 2, q + 4 + 2, q + 5 + 2, q + 6 + 2, q + 7 + 2, 0, 0, 0, 0, 0, 0])) (ps := [170, 178]) (by decide +kernel) hq
theorem tkPl_1 {q : Nat} (hq : isPl q = true) (μ : Mem) : gTk μ (q + 1) (.inr (0, 7, 0)) := gFam (fun q => (q + 1)) (fun q => .inr (0, 7, 0)) (ps := [170, 178]) (by decide +kernel) hq
theorem tkPl_2 {q : Nat} (hq : isPl q = true) (μ : Mem) : gTk μ (q + 2) (.inr (0, 7, 0)) := gFam (fun q => (q + 2)) (fun q => .inr (0, 7, 0)) (ps := [170, 178]) (by decide +kernel) hq
theorem tkPl_3 {q : Nat} (hq : isPl q = true) (μ : Mem) : gTk μ (q + 3) (.inr (0, 7, 0)) := gFam (fun q => (q + 3)) (fun q => .inr (0, 7, 0)) (ps := [170, 178]) (by decide +kernel) hq
theorem tkPl_4 {q : Nat} (hq : isPl q = true) (μ : Mem) : gTk μ (q + 4) (.inr (0, 7, 0)) := gFam (fun q => (q + 4)) (fun q => .inr (0, 7, 0)) (ps := [170, 178]) (by decide +kernel) hq
theorem tkPl_5 {q : Nat} (hq : isPl q = true) (μ : Mem) : gTk μ (q + 5) (.inr (0, 5, 0)) := gFam (fun q => (q + 5)) (fun q => .inr (0, 5, 0)) (ps := [170, 178]) (by decide +kernel) hq
theorem tkPl_6 {q : Nat} (hq : isPl q = true) (μ : Mem) : gTk μ (q + 6) (.inr (0, 5, 0)) := gFam (fun q => (q + 6)) (fun q => .inr (0, 5, 0)) (ps := [170, 178]) (by decide +kernel) hq
theorem tkPl_7 {q : Nat} (hq : isPl q = true) (μ : Mem) : gTk μ (q + 7) (.inr (0, 5, 0)) := gFam (fun q => (q + 7)) (fun q => .inr (0, 5, 0)) (ps := [170, 178]) (by decide +kernel) hq
theorem tkLe_0 {q : Nat} (hq : isLe q = true) (μ : Mem) : gTk μ q (.inl (0, [q + 1 + 2, q + 5 + 2, 0, 0])) := gFam (fun q => q) (fun q => .inl (0, [q + 1 + 2, q + 5 + 2, 0, 0])) (ps := [3, 50, 96]) (by decide +kernel) hq
theorem tkLe_5 {q : Nat} (hq : isLe q = true) (μ : Mem) : gTk μ (q + 5) (.inr (3, 10, 4)) := gFam (fun q => (q + 5)) (fun q => .inr (3, 10, 4)) (ps := [3, 50, 96]) (by decide +kernel) hq
theorem isMo_Le {q : Nat} (hq : isLe q = true) : isMo (q + 1) = true := by
  have h : ∀ q ∈ [3, 50, 96], isMo (q + 1) = true := by decide +kernel
  exact h q (List.contains_iff_mem.mp hq)
theorem tkR_148 {i : Nat} (hi : i < 7) (μ : Mem) : gTk μ (148 + 1 + 1 * i) (.inr (0, 13, 0)) := by
  have h : ∀ j ∈ List.range 7, gTs.getD (148 + 1 + 1 * j) (.inr (0, 0, 0)) = .inr (0, 13, 0) ∧ 148 + 1 + 1 * j < gNN := by decide +kernel
  have h2 := h i (List.mem_range.mpr hi)
  refine ⟨h2.2, ?_⟩
  rw [← h2.1, show 148 + 1 + 1 * i = (148 + 1 * i) + 1 by omega]
  rfl
theorem tkR_156 {i : Nat} (hi : i < 8) (μ : Mem) : gTk μ (156 + 1 + 1 * i) (.inr (0, 100, 0)) := by
  have h : ∀ j ∈ List.range 8, gTs.getD (156 + 1 + 1 * j) (.inr (0, 0, 0)) = .inr (0, 100, 0) ∧ 156 + 1 + 1 * j < gNN := by decide +kernel
  have h2 := h i (List.mem_range.mpr hi)
  refine ⟨h2.2, ?_⟩
  rw [← h2.1, show 156 + 1 + 1 * i = (156 + 1 * i) + 1 by omega]
  rfl
end
section
section GS
variable {l : Launch} {D : va_G} {cy : Nat → ClassId} {base : Nat} {own : String} {cc : ByteArray} {nL : Nat} {ret : Option FieldType} {R : Room} {X : gX} {Z : gZ} {pc : Nat} {lv : List (Nat × Value)} {st : List Value} {cells slots : Nat} {μ μ2 : Mem}
theorem gs_getI {idx ci j k0 : Nat} {cs : List Nat} (hlk : gLk own idx ci j) (hT : gTk μ k0 (.inl (ci, cs))) (hc : cs[j]? = some 0) (hdg : decode cc pc = .ok (.getfield idx, 3)) (k : G l D cy base own cc nL ret R X Z (pc + 3) lv (.int (gi μ k0 j) :: st) cells slots gNN (gH cy base μ)) : G l D cy base own cc nL ret R X Z pc lv (.ref (base + k0) :: st) cells slots gNN (gH cy base μ) :=
  g_get hlk hT.1 (gH_of hT) (by rw [gF_at, hc]; simp) hdg k
theorem gs_getL {idx ci j k0 : Nat} {cs : List Nat} (hlk : gLk own idx ci j) (hT : gTk μ k0 (.inl (ci, cs))) (hc : cs[j]? = some 1) (hdg : decode cc pc = .ok (.getfield idx, 3)) (k : G l D cy base own cc nL ret R X Z (pc + 3) lv (.long (gl μ k0) :: st) cells slots gNN (gH cy base μ)) : G l D cy base own cc nL ret R X Z pc lv (.ref (base + k0) :: st) cells slots gNN (gH cy base μ) :=
  g_get hlk hT.1 (gH_of hT) (by rw [gF_at, hc]; simp) hdg k
theorem gs_getR {idx ci j k0 r : Nat} {cs : List Nat} (hlk : gLk own idx ci j) (hT : gTk μ k0 (.inl (ci, cs))) (hc : cs[j]? = some (r + 2)) (hdg : decode cc pc = .ok (.getfield idx, 3)) (k : G l D cy base own cc nL ret R X Z (pc + 3) lv (.ref (base + r) :: st) cells slots gNN (gH cy base μ)) : G l D cy base own cc nL ret R X Z pc lv (.ref (base + k0) :: st) cells slots gNN (gH cy base μ) :=
  g_get hlk hT.1 (gH_of hT) (by rw [gF_at, hc]; simp) hdg k
theorem gs_putI {idx ci j k0 : Nat} {cs : List Nat} {v : Int32} {ty : FieldType} (hlk : gLw own idx ci j ty) (hT : gTk μ k0 (.inl (ci, cs))) (hc : cs[j]? = some 0) (hn : narrow ty (.int v) = .int v) (hfit : fits ty (.int v) = true) (hdg : decode cc pc = .ok (.putfield idx, 3)) (hs : stI μ k0 j v = some μ2) (k : G l D cy base own cc nL ret R X Z (pc + 3) lv st cells slots gNN (gH cy base μ2)) : G l D cy base own cc nL ret R X Z pc lv (.int v :: .ref (base + k0) :: st) cells slots gNN (gH cy base μ) := by
  cases hs
  refine g_put hlk hT.1 (gH_of hT) hn hfit (by rw [gF_len]; exact (List.getElem?_eq_some_iff.mp hc).1) hdg ?_
  rw [gH_si hT hc]
  exact k
theorem gs_putL {idx ci j k0 : Nat} {cs : List Nat} {v : Int64} {ty : FieldType} (hlk : gLw own idx ci j ty) (hT : gTk μ k0 (.inl (ci, cs))) (hc : cs[j]? = some 1) (hu : ∀ i, cs[i]? = some 1 → i = j) (hn : narrow ty (.long v) = .long v) (hfit : fits ty (.long v) = true) (hdg : decode cc pc = .ok (.putfield idx, 3)) (hs : stL μ k0 v = some μ2) (k : G l D cy base own cc nL ret R X Z (pc + 3) lv st cells slots gNN (gH cy base μ2)) : G l D cy base own cc nL ret R X Z pc lv (.long v :: .ref (base + k0) :: st) cells slots gNN (gH cy base μ) := by
  cases hs
  refine g_put hlk hT.1 (gH_of hT) hn hfit (by rw [gF_len]; exact (List.getElem?_eq_some_iff.mp hc).1) hdg ?_
  rw [gH_sl hT hc hu]
  exact k
theorem gs_putP {idx q : Nat} {ty : FieldType} (hlk : gLw own idx 8 8 ty) (hn : narrow ty (.ref (base + q)) = .ref (base + q)) (hfit : fits ty (.ref (base + q)) = true) (hdg : decode cc pc = .ok (.putfield idx, 3)) (k : G l D cy base own cc nL ret R X Z (pc + 3) lv st cells slots gNN (gH cy base (spl μ q))) : G l D cy base own cc nL ret R X Z pc lv (.ref (base + q) :: .ref (base + 0) :: st) cells slots gNN (gH cy base μ) := by
  refine g_put hlk (tk_0 μ).1 (gH_of (tk_0 μ)) hn hfit (by rw [gF_len]; simp) hdg ?_
  rw [gH_spl]
  exact k
theorem gs_putD {idx q : Nat} {ty : FieldType} (hlk : gLw own idx 8 9 ty) (hn : narrow ty (.ref (base + q)) = .ref (base + q)) (hfit : fits ty (.ref (base + q)) = true) (hdg : decode cc pc = .ok (.putfield idx, 3)) (k : G l D cy base own cc nL ret R X Z (pc + 3) lv st cells slots gNN (gH cy base (sdr μ q))) : G l D cy base own cc nL ret R X Z pc lv (.ref (base + q) :: .ref (base + 0) :: st) cells slots gNN (gH cy base μ) := by
  refine g_put hlk (tk_0 μ).1 (gH_of (tk_0 μ)) hn hfit (by rw [gF_len]; simp) hdg ?_
  rw [gH_sdr]
  exact k
theorem gs_iald {k0 N0 : Nat} {i y : Int32} (hT : gTk μ k0 (.inr (0, N0, 0))) (hdg : decode cc pc = .ok (.iaload, 1)) (hs : ldA μ k0 N0 i = some y) (k : G l D cy base own cc nL ret R X Z (pc + 1) lv (.int y :: st) cells slots gNN (gH cy base μ)) : G l D cy base own cc nL ret R X Z pc lv (.int i :: .ref (base + k0) :: st) cells slots gNN (gH cy base μ) := by
  unfold ldA at hs
  split at hs
  · next hck => cases hs; exact g_iald hT.1 (gH_of hT) (ck_in hck) hdg k
  · cases hs
theorem gs_zald {k0 N0 : Nat} {i y : Int32} (hT : gTk μ k0 (.inr (1, N0, 0))) (hdg : decode cc pc = .ok (.baload, 1)) (hs : ldA μ k0 N0 i = some y) (k : G l D cy base own cc nL ret R X Z (pc + 1) lv (.int y :: st) cells slots gNN (gH cy base μ)) : G l D cy base own cc nL ret R X Z pc lv (.int i :: .ref (base + k0) :: st) cells slots gNN (gH cy base μ) := by
  unfold ldA at hs
  split at hs
  · next hck => cases hs; exact g_zald hT.1 (gH_of hT) (ck_in hck) hdg k
  · cases hs
theorem gs_iast {k0 N0 : Nat} {i x : Int32} (hT : gTk μ k0 (.inr (0, N0, 0))) (hdg : decode cc pc = .ok (.iastore, 1)) (hs : stA μ k0 N0 i x = some μ2) (k : G l D cy base own cc nL ret R X Z (pc + 1) lv st cells slots gNN (gH cy base μ2)) : G l D cy base own cc nL ret R X Z pc lv (.int x :: .int i :: .ref (base + k0) :: st) cells slots gNN (gH cy base μ) := by
  unfold stA at hs
  split at hs
  · next hck =>
    cases hs
    refine g_iast hT.1 (gH_of hT) (ck_in hck) hdg ?_
    rw [gH_sA hT]
    exact k
  · cases hs
theorem gs_zast {k0 N0 : Nat} {i x : Int32} (hT : gTk μ k0 (.inr (1, N0, 0))) (hdg : decode cc pc = .ok (.bastore, 1)) (hs : stZ μ k0 N0 i x = some μ2) (k : G l D cy base own cc nL ret R X Z (pc + 1) lv st cells slots gNN (gH cy base μ2)) : G l D cy base own cc nL ret R X Z pc lv (.int x :: .int i :: .ref (base + k0) :: st) cells slots gNN (gH cy base μ) := by
  unfold stZ at hs
  split at hs
  · next hck =>
    cases hs
    refine g_zast rfl hT.1 (gH_of hT) (ck_in hck) hdg ?_
    rw [gH_sA hT]
    exact k
  · cases hs
theorem gs_aald {k0 N0 t0 sd q : Nat} {ty : FieldType} {i : Int32} {ok : Nat → Bool} (hT : gTk μ k0 (.inr (t0, N0, sd + 1))) (ht : (gT cy)[t0]? = some (cy t0, ty)) (hty : ty.isReference = true) (hdg : decode cc pc = .ok (.aaload, 1)) (hs : rfA k0 N0 (sd + 1) i ok = some q) (k : G l D cy base own cc nL ret R X Z (pc + 1) lv (.ref (base + q) :: st) cells slots gNN (gH cy base μ)) : G l D cy base own cc nL ret R X Z pc lv (.int i :: .ref (base + k0) :: st) cells slots gNN (gH cy base μ) := by
  unfold rfA at hs
  split at hs
  · next hck =>
    cases hs
    have h2 := Bool.and_eq_true_iff.mp hck
    exact g_aald hT.1 (gH_of hT) ht hty (ck_in h2.1) rfl hdg k
  · cases hs
theorem rfA_ok {k0 N0 sd q : Nat} {i : Int32} {ok : Nat → Bool} (hs : rfA k0 N0 sd i ok = some q) : ok q = true := by
  unfold rfA at hs
  split at hs
  · next hck => cases hs; exact (Bool.and_eq_true_iff.mp hck).2
  · cases hs
theorem rfA_at {k0 N0 sd q : Nat} {i : Int32} {ok : Nat → Bool} (hs : rfA k0 N0 sd i ok = some q) : q = k0 + 1 + sd * i.toNatClampNeg ∧ i.toNatClampNeg < N0 := by
  unfold rfA at hs
  split at hs
  · next hck =>
    cases hs
    have h1 := (Bool.and_eq_true_iff.mp hck).1
    simp only [ck, Bool.and_eq_true, decide_eq_true_eq] at h1
    exact ⟨rfl, h1.2⟩
  · cases hs
theorem rfG_ok {q q2 : Nat} {ok : Nat → Bool} (hs : rfG q ok = some q2) : q2 = q ∧ ok q = true := by
  unfold rfG at hs
  split at hs
  · next hck => cases hs; exact ⟨rfl, hck⟩
  · cases hs
theorem tkR148 {q : Nat} {i : Int32} {ok : Nat → Bool} (hs : rfA 148 7 1 i ok = some q) (μ : Mem) : gTk μ q (.inr (0, 13, 0)) := by
  obtain ⟨rfl, h⟩ := rfA_at hs
  exact tkR_148 h μ
theorem tkR156 {q : Nat} {i : Int32} {ok : Nat → Bool} (hs : rfA 156 8 1 i ok = some q) (μ : Mem) : gTk μ q (.inr (0, 100, 0)) := by
  obtain ⟨rfl, h⟩ := rfA_at hs
  exact tkR_156 h μ
theorem gs_alen {k0 N0 : Nat} {v : Int32} (hT : gTk μ k0 (.inr (0, N0, 0))) (hv : Int32.ofNat N0 = v) (hdg : decode cc pc = .ok (.arraylength, 1)) (k : G l D cy base own cc nL ret R X Z (pc + 1) lv (.int v :: st) cells slots gNN (gH cy base μ)) : G l D cy base own cc nL ret R X Z pc lv (.ref (base + k0) :: st) cells slots gNN (gH cy base μ) :=
  g_alen (t0 := 0) (x := (N0, .inl (ga μ k0))) (ty := .int) hT.1 (gH_of hT) rfl hv hdg k
theorem gs_copy {idx k0 k1 N0 N1 : Nat} {sp dp cn : Int32} (hlink : Cond.methodLink own idx arraycopyName ∈ gTbl) (hT0 : gTk μ k0 (.inr (0, N0, 0))) (hT1 : gTk μ k1 (.inr (0, N1, 0))) (hframes : 1 ≤ R.frames) (hlocals : (st.map fun v => v.category).sum + (nativeFrameWords "java/lang/System" "arraycopy" 5 + 11) ≤ R.locals) (hdg : decode cc pc = .ok (.invokestatic idx, 3)) (hs : cpA μ k0 N0 sp k1 N1 dp cn = some μ2) (k : G l D cy base own cc nL ret R X Z (pc + 3) lv st cells slots gNN (gH cy base μ2)) : G l D cy base own cc nL ret R X Z pc lv (.int cn :: .int dp :: .ref (base + k1) :: .int sp :: .ref (base + k0) :: st) cells slots gNN (gH cy base μ) := by
  unfold cpA at hs
  split at hs
  · next hck =>
    cases hs
    simp only [Bool.and_eq_true, decide_eq_true_eq] at hck
    obtain ⟨⟨⟨⟨h1, h2⟩, h3⟩, h4⟩, h5⟩ := hck
    refine g_copy rfl hlink hT0.1 (gH_of hT0) hT1.1 (gH_of hT1) (Int32.not_lt.mpr h1) (Int32.not_lt.mpr h2) (Int32.not_lt.mpr h3) h4 h5 hframes hlocals hdg ?_
    rw [gH_sA hT1]
    exact k
  · cases hs
theorem gs_idiv {x y z : Int32} (hdg : decode cc pc = .ok (.idiv, 1)) (hs : dvI x y = some z) (k : G l D cy base own cc nL ret R X Z (pc + 1) lv (.int z :: st) cells slots gNN (gH cy base μ)) : G l D cy base own cc nL ret R X Z pc lv (.int y :: .int x :: st) cells slots gNN (gH cy base μ) := by
  unfold dvI at hs
  split at hs
  · cases hs
  · next h => cases hs; exact g_idiv hdg h k
theorem gs_irem {x y z : Int32} (hdg : decode cc pc = .ok (.irem, 1)) (hs : rmI x y = some z) (k : G l D cy base own cc nL ret R X Z (pc + 1) lv (.int z :: st) cells slots gNN (gH cy base μ)) : G l D cy base own cc nL ret R X Z pc lv (.int y :: .int x :: st) cells slots gNN (gH cy base μ) := by
  unfold rmI at hs
  split at hs
  · cases hs
  · next h => cases hs; exact g_irem hdg h k
def gRm (d : Nat) : Room := { frames := d, cells := 0, slots := 0, locals := 40 * d }
/-- a method's contract over the memory -/
def gC (l : Launch) (D : va_G) (cy : Nat → ClassId) (base : Nat) (y : MethodName) (cc : ByteArray) (nL : Nat) (ret : Option FieldType) (d : Nat) (args : List Value) (μ : Mem) (rv : Option Value) (μ2 : Mem) : Prop :=
  gMet l D cy base y cc nL ret (gRm d) args gNN (gH cy base μ) 0 0 rv gNN (gH cy base μ2)
def gCr (R : Room) (d maxL : Nat) : Prop := d + 1 ≤ R.frames ∧ 8 + (maxL + 11) + 40 * d ≤ R.locals
def gSv (y : MethodName) : Prop := Cond.instanceMethod y ∈ gTbl ∧ Cond.selects y.cls y y ∈ gTbl
def gCk (y : MethodName) (ci : Nat) : Prop := ∃ qc : vw_C, vwCl[ci]? = some qc ∧ qc.1 = y.cls
theorem gs_callVi {y : MethodName} {bytes : ByteArray} {maxL idx k0 d : Nat} {rt : Option FieldType} {As : List Value} {r : Int32} {kr ci : Nat} {cs : List Nat} {st0 : List Value} (hM : gC l D cy base y bytes maxL rt d (.ref (base + kr) :: As) μ (some (.int r)) μ2) (hcl : gCl own idx y bytes maxL rt k0) (hsv : gSv y) (hck : gCk y ci) (hT : gTk μ kr (.inl (ci, cs))) (hR : gCr R d maxL) (hrest : (st.map fun v => v.category).sum ≤ 8) (hf : cells ≤ R.cells ∧ slots ≤ R.slots) (hn : As.length = k0) (hdg : decode cc pc = .ok (.invokevirtual idx, 3)) (hst : st0 = As.reverse ++ .ref (base + kr) :: st) (k : G l D cy base own cc nL ret R X Z (pc + 3) lv (.int r :: st) cells slots gNN (gH cy base μ2)) : G l D cy base own cc nL ret R X Z pc lv st0 cells slots gNN (gH cy base μ) := by
  obtain ⟨qc, h1, h2⟩ := hck
  exact g_callV (rv := (some (.int r))) hM hcl hsv hT.1 (gH_of hT) h1 h2 rfl rfl hR hrest hf hn hdg hst k
theorem gs_callSi {y : MethodName} {bytes : ByteArray} {maxL idx k0 d : Nat} {rt : Option FieldType} {As : List Value} {r : Int32} {st0 : List Value} (hM : gC l D cy base y bytes maxL rt d As μ (some (.int r)) μ2) (hcl : gCl own idx y bytes maxL rt k0) (hsv : Cond.static y ∈ gTbl) (hR : gCr R d maxL) (hrest : (st.map fun v => v.category).sum ≤ 8) (hf : cells ≤ R.cells ∧ slots ≤ R.slots) (hn : As.length = k0) (hdg : decode cc pc = .ok (.invokestatic idx, 3)) (hst : st0 = As.reverse ++ st) (k : G l D cy base own cc nL ret R X Z (pc + 3) lv (.int r :: st) cells slots gNN (gH cy base μ2)) : G l D cy base own cc nL ret R X Z pc lv st0 cells slots gNN (gH cy base μ) :=
  g_callS (rv := (some (.int r))) hM hcl hsv rfl rfl hR hrest hf hn hdg hst k
theorem gs_callVl {y : MethodName} {bytes : ByteArray} {maxL idx k0 d : Nat} {rt : Option FieldType} {As : List Value} {r : Int64} {kr ci : Nat} {cs : List Nat} {st0 : List Value} (hM : gC l D cy base y bytes maxL rt d (.ref (base + kr) :: As) μ (some (.long r)) μ2) (hcl : gCl own idx y bytes maxL rt k0) (hsv : gSv y) (hck : gCk y ci) (hT : gTk μ kr (.inl (ci, cs))) (hR : gCr R d maxL) (hrest : (st.map fun v => v.category).sum ≤ 8) (hf : cells ≤ R.cells ∧ slots ≤ R.slots) (hn : As.length = k0) (hdg : decode cc pc = .ok (.invokevirtual idx, 3)) (hst : st0 = As.reverse ++ .ref (base + kr) :: st) (k : G l D cy base own cc nL ret R X Z (pc + 3) lv (.long r :: st) cells slots gNN (gH cy base μ2)) : G l D cy base own cc nL ret R X Z pc lv st0 cells slots gNN (gH cy base μ) := by
  obtain ⟨qc, h1, h2⟩ := hck
  exact g_callV (rv := (some (.long r))) hM hcl hsv hT.1 (gH_of hT) h1 h2 rfl rfl hR hrest hf hn hdg hst k
theorem gs_callSl {y : MethodName} {bytes : ByteArray} {maxL idx k0 d : Nat} {rt : Option FieldType} {As : List Value} {r : Int64} {st0 : List Value} (hM : gC l D cy base y bytes maxL rt d As μ (some (.long r)) μ2) (hcl : gCl own idx y bytes maxL rt k0) (hsv : Cond.static y ∈ gTbl) (hR : gCr R d maxL) (hrest : (st.map fun v => v.category).sum ≤ 8) (hf : cells ≤ R.cells ∧ slots ≤ R.slots) (hn : As.length = k0) (hdg : decode cc pc = .ok (.invokestatic idx, 3)) (hst : st0 = As.reverse ++ st) (k : G l D cy base own cc nL ret R X Z (pc + 3) lv (.long r :: st) cells slots gNN (gH cy base μ2)) : G l D cy base own cc nL ret R X Z pc lv st0 cells slots gNN (gH cy base μ) :=
  g_callS (rv := (some (.long r))) hM hcl hsv rfl rfl hR hrest hf hn hdg hst k
theorem gs_callVv {y : MethodName} {bytes : ByteArray} {maxL idx k0 d : Nat} {rt : Option FieldType} {As : List Value}  {kr ci : Nat} {cs : List Nat} {st0 : List Value} (hM : gC l D cy base y bytes maxL rt d (.ref (base + kr) :: As) μ none μ2) (hcl : gCl own idx y bytes maxL rt k0) (hsv : gSv y) (hck : gCk y ci) (hT : gTk μ kr (.inl (ci, cs))) (hR : gCr R d maxL) (hrest : (st.map fun v => v.category).sum ≤ 8) (hf : cells ≤ R.cells ∧ slots ≤ R.slots) (hn : As.length = k0) (hdg : decode cc pc = .ok (.invokevirtual idx, 3)) (hst : st0 = As.reverse ++ .ref (base + kr) :: st) (k : G l D cy base own cc nL ret R X Z (pc + 3) lv st cells slots gNN (gH cy base μ2)) : G l D cy base own cc nL ret R X Z pc lv st0 cells slots gNN (gH cy base μ) := by
  obtain ⟨qc, h1, h2⟩ := hck
  exact g_callV (rv := none) hM hcl hsv hT.1 (gH_of hT) h1 h2 rfl rfl hR hrest hf hn hdg hst k
theorem gs_callSv {y : MethodName} {bytes : ByteArray} {maxL idx k0 d : Nat} {rt : Option FieldType} {As : List Value}  {st0 : List Value} (hM : gC l D cy base y bytes maxL rt d As μ none μ2) (hcl : gCl own idx y bytes maxL rt k0) (hsv : Cond.static y ∈ gTbl) (hR : gCr R d maxL) (hrest : (st.map fun v => v.category).sum ≤ 8) (hf : cells ≤ R.cells ∧ slots ≤ R.slots) (hn : As.length = k0) (hdg : decode cc pc = .ok (.invokestatic idx, 3)) (hst : st0 = As.reverse ++ st) (k : G l D cy base own cc nL ret R X Z (pc + 3) lv st cells slots gNN (gH cy base μ2)) : G l D cy base own cc nL ret R X Z pc lv st0 cells slots gNN (gH cy base μ) :=
  g_callS (rv := none) hM hcl hsv rfl rfl hR hrest hf hn hdg hst k
theorem gs_callSNi {y : MethodName} {bytes : ByteArray} {maxL idx k0 d : Nat} {rt : Option FieldType} {As : List Value} {r : Int32} {host : String} {st0 : List Value} (hM : gC l D cy base y bytes maxL rt d As μ (some (.int r)) μ2) (hcl : gCn own idx y host bytes maxL rt k0) (hsv : Cond.static y ∈ gTbl) (hR : gCr R d maxL) (hrest : (st.map fun v => v.category).sum ≤ 8) (hf : cells ≤ R.cells ∧ slots ≤ R.slots) (hn : As.length = k0) (hdg : decode cc pc = .ok (.invokestatic idx, 3)) (hst : st0 = As.reverse ++ st) (k : G l D cy base own cc nL ret R X Z (pc + 3) lv (.int r :: st) cells slots gNN (gH cy base μ2)) : G l D cy base own cc nL ret R X Z pc lv st0 cells slots gNN (gH cy base μ) :=
  g_callSN (rv := some (.int r)) hM hcl hsv rfl rfl hR hrest hf hn hdg hst k
theorem ob {α β : Type} {x : Option α} {f : α → Option β} {b : β} (h : x.bind f = some b) : ∃ a, x = some a ∧ f a = some b := Option.bind_eq_some_iff.mp h
end GS
end
section
theorem gm {w : Cond} (i : Nat) (h : tables_1[i]? = some w) (hg : goodWord w = true) : w ∈ gTbl := List.mem_filter.mpr ⟨List.mem_append_right _ (List.mem_of_getElem? h), hg⟩
theorem gmp {w : Cond} (i : Nat) (h : (k2_sels lw_privs)[i]? = some w) (hg : goodWord w = true) : w ∈ gTbl := List.mem_filter.mpr ⟨List.mem_append_left _ (List.mem_of_getElem? h), hg⟩
theorem gsub {ws : List Cond} (h1 : ∀ w ∈ ws, w ∈ lw_tbl) (h2 : ws.all goodWord = true) : ∀ w ∈ ws, w ∈ gTbl := fun w hw => List.mem_filter.mpr ⟨h1 w hw, List.all_eq_true.mp h2 w hw⟩
theorem jnX0 : ∀ w ∈ wsX00, w ∈ gTbl := gsub inX0 (by decide +kernel)
theorem jnX1 : ∀ w ∈ wsX10, w ∈ gTbl := gsub inX1 (by decide +kernel)
theorem jnX2 : ∀ w ∈ wsX20, w ∈ gTbl := gsub inX2 (by decide +kernel)
theorem jnX3 : ∀ w ∈ wsX30, w ∈ gTbl := gsub inX3 (by decide +kernel)
theorem jnX4 : ∀ w ∈ wsX40, w ∈ gTbl := gsub inX4 (by decide +kernel)
theorem jnX5 : ∀ w ∈ wsX50, w ∈ gTbl := gsub inX5 (by decide +kernel)
theorem jnX6 : ∀ w ∈ wsX60, w ∈ gTbl := gsub inX6 (by decide +kernel)
theorem jnX7 : ∀ w ∈ wsX70, w ∈ gTbl := gsub inX7 (by decide +kernel)
theorem jnX8 : ∀ w ∈ wsX80, w ∈ gTbl := gsub inX8 (by decide +kernel)
theorem jnX9 : ∀ w ∈ wsX90, w ∈ gTbl := gsub inX9 (by decide +kernel)
theorem lk_RX8_10 : gLk RX8 10 8 0 := ⟨RX8, TX8, 11, tyX8, rfl, by decide, gm 262 (by decide +kernel) (by decide +kernel), jnX8, tyX8_ok, nmX8⟩
theorem lk_RX8_19 : gLk RX8 19 8 1 := ⟨RX8, TX8, 11, tyX8, rfl, by decide, gm 263 (by decide +kernel) (by decide +kernel), jnX8, tyX8_ok, nmX8⟩
theorem lk_RX8_23 : gLk RX8 23 8 2 := ⟨RX8, TX8, 11, tyX8, rfl, by decide, gm 264 (by decide +kernel) (by decide +kernel), jnX8, tyX8_ok, nmX8⟩
theorem lk_RX8_27 : gLk RX8 27 8 3 := ⟨RX8, TX8, 11, tyX8, rfl, by decide, gm 265 (by decide +kernel) (by decide +kernel), jnX8, tyX8_ok, nmX8⟩
theorem lk_RX8_34 : gLk RX8 34 8 4 := ⟨RX8, TX8, 11, tyX8, rfl, by decide, gm 266 (by decide +kernel) (by decide +kernel), jnX8, tyX8_ok, nmX8⟩
theorem lk_RX8_41 : gLk RX8 41 8 5 := ⟨RX8, TX8, 11, tyX8, rfl, by decide, gm 267 (by decide +kernel) (by decide +kernel), jnX8, tyX8_ok, nmX8⟩
theorem lk_RX8_48 : gLk RX8 48 8 6 := ⟨RX8, TX8, 11, tyX8, rfl, by decide, gm 268 (by decide +kernel) (by decide +kernel), jnX8, tyX8_ok, nmX8⟩
theorem lk_RX8_55 : gLk RX8 55 8 7 := ⟨RX8, TX8, 11, tyX8, rfl, by decide, gm 269 (by decide +kernel) (by decide +kernel), jnX8, tyX8_ok, nmX8⟩
theorem lk_RX8_62 : gLk RX8 62 8 8 := ⟨RX8, TX8, 11, tyX8, rfl, by decide, gm 270 (by decide +kernel) (by decide +kernel), jnX8, tyX8_ok, nmX8⟩
theorem lw_RX8_62 : gLw RX8 62 8 8 (.object "OwedFalls$Plan") := ⟨RX8, TX8, 11, tyX8, rfl, by decide, gm 270 (by decide +kernel) (by decide +kernel), jnX8, tyX8_ok, nmX8, rfl, by decide +kernel⟩
theorem lk_RX8_66 : gLk RX8 66 8 9 := ⟨RX8, TX8, 11, tyX8, rfl, by decide, gm 271 (by decide +kernel) (by decide +kernel), jnX8, tyX8_ok, nmX8⟩
theorem lw_RX8_66 : gLw RX8 66 8 9 (.object "OwedFalls$Plan") := ⟨RX8, TX8, 11, tyX8, rfl, by decide, gm 271 (by decide +kernel) (by decide +kernel), jnX8, tyX8_ok, nmX8, rfl, by decide +kernel⟩
theorem lk_RX8_73 : gLk RX8 73 4 1 := ⟨RX4, TX4, 6, tyX4, rfl, by decide, gm 30 (by decide +kernel) (by decide +kernel), jnX4, tyX4_ok, nmX4⟩
theorem lk_RX8_91 : gLk RX8 91 3 0 := ⟨RX3, TX3, 13, tyX3, rfl, by decide, gm 186 (by decide +kernel) (by decide +kernel), jnX3, tyX3_ok, nmX3⟩
theorem lk_RX8_95 : gLk RX8 95 3 1 := ⟨RX3, TX3, 13, tyX3, rfl, by decide, gm 190 (by decide +kernel) (by decide +kernel), jnX3, tyX3_ok, nmX3⟩
theorem lk_RX8_98 : gLk RX8 98 3 2 := ⟨RX3, TX3, 13, tyX3, rfl, by decide, gm 194 (by decide +kernel) (by decide +kernel), jnX3, tyX3_ok, nmX3⟩
theorem lk_RX8_101 : gLk RX8 101 3 3 := ⟨RX3, TX3, 13, tyX3, rfl, by decide, gm 198 (by decide +kernel) (by decide +kernel), jnX3, tyX3_ok, nmX3⟩
theorem lk_RX8_104 : gLk RX8 104 0 0 := ⟨RX0, TX0, 4, tyX0, rfl, by decide, gm 87 (by decide +kernel) (by decide +kernel), jnX0, tyX0_ok, nmX0⟩
theorem lk_RX8_108 : gLk RX8 108 1 0 := ⟨RX1, TX1, 5, tyX1, rfl, by decide, gm 63 (by decide +kernel) (by decide +kernel), jnX1, tyX1_ok, nmX1⟩
theorem lk_RX8_113 : gLk RX8 113 1 1 := ⟨RX1, TX1, 5, tyX1, rfl, by decide, gm 66 (by decide +kernel) (by decide +kernel), jnX1, tyX1_ok, nmX1⟩
theorem lk_RX8_123 : gLk RX8 123 3 4 := ⟨RX3, TX3, 13, tyX3, rfl, by decide, gm 201 (by decide +kernel) (by decide +kernel), jnX3, tyX3_ok, nmX3⟩
theorem lk_RX8_126 : gLk RX8 126 3 5 := ⟨RX3, TX3, 13, tyX3, rfl, by decide, gm 204 (by decide +kernel) (by decide +kernel), jnX3, tyX3_ok, nmX3⟩
theorem lk_RX8_129 : gLk RX8 129 3 6 := ⟨RX3, TX3, 13, tyX3, rfl, by decide, gm 210 (by decide +kernel) (by decide +kernel), jnX3, tyX3_ok, nmX3⟩
theorem lk_RX8_136 : gLk RX8 136 1 2 := ⟨RX1, TX1, 5, tyX1, rfl, by decide, gm 69 (by decide +kernel) (by decide +kernel), jnX1, tyX1_ok, nmX1⟩
theorem lk_RX8_156 : gLk RX8 156 3 10 := ⟨RX3, TX3, 13, tyX3, rfl, by decide, gm 230 (by decide +kernel) (by decide +kernel), jnX3, tyX3_ok, nmX3⟩
theorem lk_RX8_159 : gLk RX8 159 3 9 := ⟨RX3, TX3, 13, tyX3, rfl, by decide, gm 226 (by decide +kernel) (by decide +kernel), jnX3, tyX3_ok, nmX3⟩
theorem lk_RX8_162 : gLk RX8 162 1 4 := ⟨RX1, TX1, 5, tyX1, rfl, by decide, gm 73 (by decide +kernel) (by decide +kernel), jnX1, tyX1_ok, nmX1⟩
theorem lk_RX8_168 : gLk RX8 168 3 7 := ⟨RX3, TX3, 13, tyX3, rfl, by decide, gm 217 (by decide +kernel) (by decide +kernel), jnX3, tyX3_ok, nmX3⟩
theorem lk_RX8_178 : gLk RX8 178 0 2 := ⟨RX0, TX0, 4, tyX0, rfl, by decide, gm 90 (by decide +kernel) (by decide +kernel), jnX0, tyX0_ok, nmX0⟩
theorem lk_RX8_185 : gLk RX8 185 1 3 := ⟨RX1, TX1, 5, tyX1, rfl, by decide, gm 71 (by decide +kernel) (by decide +kernel), jnX1, tyX1_ok, nmX1⟩
theorem lk_RX8_244 : gLk RX8 244 6 1 := ⟨RX6, TX6, 4, tyX6, rfl, by decide, gm 164 (by decide +kernel) (by decide +kernel), jnX6, tyX6_ok, nmX6⟩
theorem lk_RX8_247 : gLk RX8 247 6 2 := ⟨RX6, TX6, 4, tyX6, rfl, by decide, gm 166 (by decide +kernel) (by decide +kernel), jnX6, tyX6_ok, nmX6⟩
theorem lk_RX8_250 : gLk RX8 250 6 3 := ⟨RX6, TX6, 4, tyX6, rfl, by decide, gm 168 (by decide +kernel) (by decide +kernel), jnX6, tyX6_ok, nmX6⟩
theorem lk_RX8_282 : gLk RX8 282 3 8 := ⟨RX3, TX3, 13, tyX3, rfl, by decide, gm 222 (by decide +kernel) (by decide +kernel), jnX3, tyX3_ok, nmX3⟩
theorem lk_RX8_285 : gLk RX8 285 8 10 := ⟨RX8, TX8, 11, tyX8, rfl, by decide, gm 272 (by decide +kernel) (by decide +kernel), jnX8, tyX8_ok, nmX8⟩
theorem lw_RX8_285 : gLw RX8 285 8 10 (.long) := ⟨RX8, TX8, 11, tyX8, rfl, by decide, gm 272 (by decide +kernel) (by decide +kernel), jnX8, tyX8_ok, nmX8, rfl, by decide +kernel⟩
theorem lk_RX0_12 : gLk RX0 12 0 0 := ⟨RX0, TX0, 4, tyX0, rfl, by decide, gm 86 (by decide +kernel) (by decide +kernel), jnX0, tyX0_ok, nmX0⟩
theorem lk_RX0_18 : gLk RX0 18 0 1 := ⟨RX0, TX0, 4, tyX0, rfl, by decide, gm 88 (by decide +kernel) (by decide +kernel), jnX0, tyX0_ok, nmX0⟩
theorem lk_RX0_22 : gLk RX0 22 0 2 := ⟨RX0, TX0, 4, tyX0, rfl, by decide, gm 89 (by decide +kernel) (by decide +kernel), jnX0, tyX0_ok, nmX0⟩
theorem lw_RX0_22 : gLw RX0 22 0 2 (.int) := ⟨RX0, TX0, 4, tyX0, rfl, by decide, gm 89 (by decide +kernel) (by decide +kernel), jnX0, tyX0_ok, nmX0, rfl, by decide +kernel⟩
theorem lk_RX0_26 : gLk RX0 26 0 3 := ⟨RX0, TX0, 4, tyX0, rfl, by decide, gm 91 (by decide +kernel) (by decide +kernel), jnX0, tyX0_ok, nmX0⟩
theorem lw_RX0_26 : gLw RX0 26 0 3 (.int) := ⟨RX0, TX0, 4, tyX0, rfl, by decide, gm 91 (by decide +kernel) (by decide +kernel), jnX0, tyX0_ok, nmX0, rfl, by decide +kernel⟩
theorem lk_RX1_9 : gLk RX1 9 1 0 := ⟨RX1, TX1, 5, tyX1, rfl, by decide, gm 61 (by decide +kernel) (by decide +kernel), jnX1, tyX1_ok, nmX1⟩
theorem lk_RX1_15 : gLk RX1 15 1 1 := ⟨RX1, TX1, 5, tyX1, rfl, by decide, gm 65 (by decide +kernel) (by decide +kernel), jnX1, tyX1_ok, nmX1⟩
theorem lk_RX1_18 : gLk RX1 18 1 2 := ⟨RX1, TX1, 5, tyX1, rfl, by decide, gm 68 (by decide +kernel) (by decide +kernel), jnX1, tyX1_ok, nmX1⟩
theorem lk_RX1_21 : gLk RX1 21 1 3 := ⟨RX1, TX1, 5, tyX1, rfl, by decide, gm 70 (by decide +kernel) (by decide +kernel), jnX1, tyX1_ok, nmX1⟩
theorem lw_RX1_21 : gLw RX1 21 1 3 (.int) := ⟨RX1, TX1, 5, tyX1, rfl, by decide, gm 70 (by decide +kernel) (by decide +kernel), jnX1, tyX1_ok, nmX1, rfl, by decide +kernel⟩
theorem lk_RX1_25 : gLk RX1 25 1 4 := ⟨RX1, TX1, 5, tyX1, rfl, by decide, gm 72 (by decide +kernel) (by decide +kernel), jnX1, tyX1_ok, nmX1⟩
theorem lw_RX1_25 : gLw RX1 25 1 4 (.int) := ⟨RX1, TX1, 5, tyX1, rfl, by decide, gm 72 (by decide +kernel) (by decide +kernel), jnX1, tyX1_ok, nmX1, rfl, by decide +kernel⟩
theorem lk_RX1_28 : gLk RX1 28 3 3 := ⟨RX3, TX3, 13, tyX3, rfl, by decide, gm 197 (by decide +kernel) (by decide +kernel), jnX3, tyX3_ok, nmX3⟩
theorem lk_RX1_55 : gLk RX1 55 3 7 := ⟨RX3, TX3, 13, tyX3, rfl, by decide, gm 215 (by decide +kernel) (by decide +kernel), jnX3, tyX3_ok, nmX3⟩
theorem lk_RX2_11 : gLk RX2 11 2 0 := ⟨RX2, TX2, 4, tyX2, rfl, by decide, gm 121 (by decide +kernel) (by decide +kernel), jnX2, tyX2_ok, nmX2⟩
theorem lk_RX2_15 : gLk RX2 15 2 1 := ⟨RX2, TX2, 4, tyX2, rfl, by decide, gm 122 (by decide +kernel) (by decide +kernel), jnX2, tyX2_ok, nmX2⟩
theorem lk_RX2_20 : gLk RX2 20 2 2 := ⟨RX2, TX2, 4, tyX2, rfl, by decide, gm 123 (by decide +kernel) (by decide +kernel), jnX2, tyX2_ok, nmX2⟩
theorem lk_RX2_23 : gLk RX2 23 2 3 := ⟨RX2, TX2, 4, tyX2, rfl, by decide, gm 124 (by decide +kernel) (by decide +kernel), jnX2, tyX2_ok, nmX2⟩
theorem lk_RX2_41 : gLk RX2 41 3 8 := ⟨RX3, TX3, 13, tyX3, rfl, by decide, gm 220 (by decide +kernel) (by decide +kernel), jnX3, tyX3_ok, nmX3⟩
theorem lk_RX2_50 : gLk RX2 50 3 6 := ⟨RX3, TX3, 13, tyX3, rfl, by decide, gm 208 (by decide +kernel) (by decide +kernel), jnX3, tyX3_ok, nmX3⟩
theorem lk_RX2_57 : gLk RX2 57 3 10 := ⟨RX3, TX3, 13, tyX3, rfl, by decide, gm 228 (by decide +kernel) (by decide +kernel), jnX3, tyX3_ok, nmX3⟩
theorem lk_RX2_69 : gLk RX2 69 3 7 := ⟨RX3, TX3, 13, tyX3, rfl, by decide, gm 216 (by decide +kernel) (by decide +kernel), jnX3, tyX3_ok, nmX3⟩
theorem lk_RX2_72 : gLk RX2 72 1 0 := ⟨RX1, TX1, 5, tyX1, rfl, by decide, gm 64 (by decide +kernel) (by decide +kernel), jnX1, tyX1_ok, nmX1⟩
theorem lk_RX2_77 : gLk RX2 77 3 9 := ⟨RX3, TX3, 13, tyX3, rfl, by decide, gm 224 (by decide +kernel) (by decide +kernel), jnX3, tyX3_ok, nmX3⟩
theorem lk_RX2_80 : gLk RX2 80 1 1 := ⟨RX1, TX1, 5, tyX1, rfl, by decide, gm 67 (by decide +kernel) (by decide +kernel), jnX1, tyX1_ok, nmX1⟩
theorem lk_RX3_9 : gLk RX3 9 3 0 := ⟨RX3, TX3, 13, tyX3, rfl, by decide, gm 184 (by decide +kernel) (by decide +kernel), jnX3, tyX3_ok, nmX3⟩
theorem lk_RX3_15 : gLk RX3 15 3 1 := ⟨RX3, TX3, 13, tyX3, rfl, by decide, gm 188 (by decide +kernel) (by decide +kernel), jnX3, tyX3_ok, nmX3⟩
theorem lk_RX3_18 : gLk RX3 18 3 2 := ⟨RX3, TX3, 13, tyX3, rfl, by decide, gm 192 (by decide +kernel) (by decide +kernel), jnX3, tyX3_ok, nmX3⟩
theorem lk_RX3_21 : gLk RX3 21 3 3 := ⟨RX3, TX3, 13, tyX3, rfl, by decide, gm 196 (by decide +kernel) (by decide +kernel), jnX3, tyX3_ok, nmX3⟩
theorem lk_RX3_24 : gLk RX3 24 3 4 := ⟨RX3, TX3, 13, tyX3, rfl, by decide, gm 200 (by decide +kernel) (by decide +kernel), jnX3, tyX3_ok, nmX3⟩
theorem lk_RX3_27 : gLk RX3 27 3 5 := ⟨RX3, TX3, 13, tyX3, rfl, by decide, gm 203 (by decide +kernel) (by decide +kernel), jnX3, tyX3_ok, nmX3⟩
theorem lk_RX3_30 : gLk RX3 30 3 6 := ⟨RX3, TX3, 13, tyX3, rfl, by decide, gm 207 (by decide +kernel) (by decide +kernel), jnX3, tyX3_ok, nmX3⟩
theorem lk_RX3_33 : gLk RX3 33 3 7 := ⟨RX3, TX3, 13, tyX3, rfl, by decide, gm 212 (by decide +kernel) (by decide +kernel), jnX3, tyX3_ok, nmX3⟩
theorem lw_RX3_33 : gLw RX3 33 3 7 (.int) := ⟨RX3, TX3, 13, tyX3, rfl, by decide, gm 212 (by decide +kernel) (by decide +kernel), jnX3, tyX3_ok, nmX3, rfl, by decide +kernel⟩
theorem lk_RX3_37 : gLk RX3 37 3 8 := ⟨RX3, TX3, 13, tyX3, rfl, by decide, gm 218 (by decide +kernel) (by decide +kernel), jnX3, tyX3_ok, nmX3⟩
theorem lw_RX3_37 : gLw RX3 37 3 8 (.int) := ⟨RX3, TX3, 13, tyX3, rfl, by decide, gm 218 (by decide +kernel) (by decide +kernel), jnX3, tyX3_ok, nmX3, rfl, by decide +kernel⟩
theorem lk_RX3_40 : gLk RX3 40 3 9 := ⟨RX3, TX3, 13, tyX3, rfl, by decide, gm 223 (by decide +kernel) (by decide +kernel), jnX3, tyX3_ok, nmX3⟩
theorem lw_RX3_40 : gLw RX3 40 3 9 (.int) := ⟨RX3, TX3, 13, tyX3, rfl, by decide, gm 223 (by decide +kernel) (by decide +kernel), jnX3, tyX3_ok, nmX3, rfl, by decide +kernel⟩
theorem lk_RX3_43 : gLk RX3 43 3 10 := ⟨RX3, TX3, 13, tyX3, rfl, by decide, gm 227 (by decide +kernel) (by decide +kernel), jnX3, tyX3_ok, nmX3⟩
theorem lw_RX3_43 : gLw RX3 43 3 10 (.int) := ⟨RX3, TX3, 13, tyX3, rfl, by decide, gm 227 (by decide +kernel) (by decide +kernel), jnX3, tyX3_ok, nmX3, rfl, by decide +kernel⟩
theorem lk_RX3_46 : gLk RX3 46 3 11 := ⟨RX3, TX3, 13, tyX3, rfl, by decide, gm 231 (by decide +kernel) (by decide +kernel), jnX3, tyX3_ok, nmX3⟩
theorem lw_RX3_46 : gLw RX3 46 3 11 (.boolean) := ⟨RX3, TX3, 13, tyX3, rfl, by decide, gm 231 (by decide +kernel) (by decide +kernel), jnX3, tyX3_ok, nmX3, rfl, by decide +kernel⟩
theorem lk_RX3_50 : gLk RX3 50 3 12 := ⟨RX3, TX3, 13, tyX3, rfl, by decide, gm 233 (by decide +kernel) (by decide +kernel), jnX3, tyX3_ok, nmX3⟩
theorem lw_RX3_50 : gLw RX3 50 3 12 (.boolean) := ⟨RX3, TX3, 13, tyX3, rfl, by decide, gm 233 (by decide +kernel) (by decide +kernel), jnX3, tyX3_ok, nmX3, rfl, by decide +kernel⟩
theorem lk_RX4_9 : gLk RX4 9 4 0 := ⟨RX4, TX4, 6, tyX4, rfl, by decide, gm 28 (by decide +kernel) (by decide +kernel), jnX4, tyX4_ok, nmX4⟩
theorem lk_RX4_15 : gLk RX4 15 4 1 := ⟨RX4, TX4, 6, tyX4, rfl, by decide, gm 29 (by decide +kernel) (by decide +kernel), jnX4, tyX4_ok, nmX4⟩
theorem lw_RX4_15 : gLw RX4 15 4 1 (.int) := ⟨RX4, TX4, 6, tyX4, rfl, by decide, gm 29 (by decide +kernel) (by decide +kernel), jnX4, tyX4_ok, nmX4, rfl, by decide +kernel⟩
theorem lk_RX4_19 : gLk RX4 19 4 2 := ⟨RX4, TX4, 6, tyX4, rfl, by decide, gm 31 (by decide +kernel) (by decide +kernel), jnX4, tyX4_ok, nmX4⟩
theorem lw_RX4_19 : gLw RX4 19 4 2 (.int) := ⟨RX4, TX4, 6, tyX4, rfl, by decide, gm 31 (by decide +kernel) (by decide +kernel), jnX4, tyX4_ok, nmX4, rfl, by decide +kernel⟩
theorem lk_RX4_22 : gLk RX4 22 4 3 := ⟨RX4, TX4, 6, tyX4, rfl, by decide, gm 32 (by decide +kernel) (by decide +kernel), jnX4, tyX4_ok, nmX4⟩
theorem lw_RX4_22 : gLw RX4 22 4 3 (.int) := ⟨RX4, TX4, 6, tyX4, rfl, by decide, gm 32 (by decide +kernel) (by decide +kernel), jnX4, tyX4_ok, nmX4, rfl, by decide +kernel⟩
theorem lk_RX4_25 : gLk RX4 25 4 4 := ⟨RX4, TX4, 6, tyX4, rfl, by decide, gm 33 (by decide +kernel) (by decide +kernel), jnX4, tyX4_ok, nmX4⟩
theorem lw_RX4_25 : gLw RX4 25 4 4 (.int) := ⟨RX4, TX4, 6, tyX4, rfl, by decide, gm 33 (by decide +kernel) (by decide +kernel), jnX4, tyX4_ok, nmX4, rfl, by decide +kernel⟩
theorem lk_RX4_28 : gLk RX4 28 4 5 := ⟨RX4, TX4, 6, tyX4, rfl, by decide, gm 34 (by decide +kernel) (by decide +kernel), jnX4, tyX4_ok, nmX4⟩
theorem lw_RX4_28 : gLw RX4 28 4 5 (.int) := ⟨RX4, TX4, 6, tyX4, rfl, by decide, gm 34 (by decide +kernel) (by decide +kernel), jnX4, tyX4_ok, nmX4, rfl, by decide +kernel⟩
theorem lk_RX4_59 : gLk RX4 59 3 7 := ⟨RX3, TX3, 13, tyX3, rfl, by decide, gm 214 (by decide +kernel) (by decide +kernel), jnX3, tyX3_ok, nmX3⟩
theorem lw_RX4_59 : gLw RX4 59 3 7 (.int) := ⟨RX3, TX3, 13, tyX3, rfl, by decide, gm 214 (by decide +kernel) (by decide +kernel), jnX3, tyX3_ok, nmX3, rfl, by decide +kernel⟩
theorem lk_RX4_66 : gLk RX4 66 3 0 := ⟨RX3, TX3, 13, tyX3, rfl, by decide, gm 187 (by decide +kernel) (by decide +kernel), jnX3, tyX3_ok, nmX3⟩
theorem lk_RX4_69 : gLk RX4 69 3 1 := ⟨RX3, TX3, 13, tyX3, rfl, by decide, gm 191 (by decide +kernel) (by decide +kernel), jnX3, tyX3_ok, nmX3⟩
theorem lk_RX4_72 : gLk RX4 72 3 2 := ⟨RX3, TX3, 13, tyX3, rfl, by decide, gm 195 (by decide +kernel) (by decide +kernel), jnX3, tyX3_ok, nmX3⟩
theorem lk_RX4_75 : gLk RX4 75 3 3 := ⟨RX3, TX3, 13, tyX3, rfl, by decide, gm 199 (by decide +kernel) (by decide +kernel), jnX3, tyX3_ok, nmX3⟩
theorem lk_RX4_78 : gLk RX4 78 3 8 := ⟨RX3, TX3, 13, tyX3, rfl, by decide, gm 221 (by decide +kernel) (by decide +kernel), jnX3, tyX3_ok, nmX3⟩
theorem lw_RX4_78 : gLw RX4 78 3 8 (.int) := ⟨RX3, TX3, 13, tyX3, rfl, by decide, gm 221 (by decide +kernel) (by decide +kernel), jnX3, tyX3_ok, nmX3, rfl, by decide +kernel⟩
theorem lk_RX4_81 : gLk RX4 81 3 4 := ⟨RX3, TX3, 13, tyX3, rfl, by decide, gm 202 (by decide +kernel) (by decide +kernel), jnX3, tyX3_ok, nmX3⟩
theorem lk_RX4_84 : gLk RX4 84 3 5 := ⟨RX3, TX3, 13, tyX3, rfl, by decide, gm 206 (by decide +kernel) (by decide +kernel), jnX3, tyX3_ok, nmX3⟩
theorem lk_RX4_87 : gLk RX4 87 3 6 := ⟨RX3, TX3, 13, tyX3, rfl, by decide, gm 211 (by decide +kernel) (by decide +kernel), jnX3, tyX3_ok, nmX3⟩
theorem lk_RX4_90 : gLk RX4 90 3 11 := ⟨RX3, TX3, 13, tyX3, rfl, by decide, gm 232 (by decide +kernel) (by decide +kernel), jnX3, tyX3_ok, nmX3⟩
theorem lw_RX4_90 : gLw RX4 90 3 11 (.boolean) := ⟨RX3, TX3, 13, tyX3, rfl, by decide, gm 232 (by decide +kernel) (by decide +kernel), jnX3, tyX3_ok, nmX3, rfl, by decide +kernel⟩
theorem lk_RX4_94 : gLk RX4 94 3 9 := ⟨RX3, TX3, 13, tyX3, rfl, by decide, gm 225 (by decide +kernel) (by decide +kernel), jnX3, tyX3_ok, nmX3⟩
theorem lw_RX4_94 : gLw RX4 94 3 9 (.int) := ⟨RX3, TX3, 13, tyX3, rfl, by decide, gm 225 (by decide +kernel) (by decide +kernel), jnX3, tyX3_ok, nmX3, rfl, by decide +kernel⟩
theorem lk_RX4_97 : gLk RX4 97 3 12 := ⟨RX3, TX3, 13, tyX3, rfl, by decide, gm 234 (by decide +kernel) (by decide +kernel), jnX3, tyX3_ok, nmX3⟩
theorem lw_RX4_97 : gLw RX4 97 3 12 (.boolean) := ⟨RX3, TX3, 13, tyX3, rfl, by decide, gm 234 (by decide +kernel) (by decide +kernel), jnX3, tyX3_ok, nmX3, rfl, by decide +kernel⟩
theorem lk_RX4_100 : gLk RX4 100 3 10 := ⟨RX3, TX3, 13, tyX3, rfl, by decide, gm 229 (by decide +kernel) (by decide +kernel), jnX3, tyX3_ok, nmX3⟩
theorem lw_RX4_100 : gLw RX4 100 3 10 (.int) := ⟨RX3, TX3, 13, tyX3, rfl, by decide, gm 229 (by decide +kernel) (by decide +kernel), jnX3, tyX3_ok, nmX3, rfl, by decide +kernel⟩
theorem lk_RX5_9 : gLk RX5 9 5 0 := ⟨RX5, TX5, 5, tyX5, rfl, by decide, gm 140 (by decide +kernel) (by decide +kernel), jnX5, tyX5_ok, nmX5⟩
theorem lk_RX5_15 : gLk RX5 15 5 1 := ⟨RX5, TX5, 5, tyX5, rfl, by decide, gm 141 (by decide +kernel) (by decide +kernel), jnX5, tyX5_ok, nmX5⟩
theorem lk_RX5_18 : gLk RX5 18 5 2 := ⟨RX5, TX5, 5, tyX5, rfl, by decide, gm 142 (by decide +kernel) (by decide +kernel), jnX5, tyX5_ok, nmX5⟩
theorem lw_RX5_18 : gLw RX5 18 5 2 (.int) := ⟨RX5, TX5, 5, tyX5, rfl, by decide, gm 142 (by decide +kernel) (by decide +kernel), jnX5, tyX5_ok, nmX5, rfl, by decide +kernel⟩
theorem lk_RX5_22 : gLk RX5 22 5 3 := ⟨RX5, TX5, 5, tyX5, rfl, by decide, gm 143 (by decide +kernel) (by decide +kernel), jnX5, tyX5_ok, nmX5⟩
theorem lw_RX5_22 : gLw RX5 22 5 3 (.int) := ⟨RX5, TX5, 5, tyX5, rfl, by decide, gm 143 (by decide +kernel) (by decide +kernel), jnX5, tyX5_ok, nmX5, rfl, by decide +kernel⟩
theorem lk_RX5_25 : gLk RX5 25 5 4 := ⟨RX5, TX5, 5, tyX5, rfl, by decide, gm 144 (by decide +kernel) (by decide +kernel), jnX5, tyX5_ok, nmX5⟩
theorem lw_RX5_25 : gLw RX5 25 5 4 (.int) := ⟨RX5, TX5, 5, tyX5, rfl, by decide, gm 144 (by decide +kernel) (by decide +kernel), jnX5, tyX5_ok, nmX5, rfl, by decide +kernel⟩
theorem lk_RX6_11 : gLk RX6 11 6 0 := ⟨RX6, TX6, 4, tyX6, rfl, by decide, gm 162 (by decide +kernel) (by decide +kernel), jnX6, tyX6_ok, nmX6⟩
theorem lk_RX6_15 : gLk RX6 15 6 1 := ⟨RX6, TX6, 4, tyX6, rfl, by decide, gm 163 (by decide +kernel) (by decide +kernel), jnX6, tyX6_ok, nmX6⟩
theorem lw_RX6_15 : gLw RX6 15 6 1 (.int) := ⟨RX6, TX6, 4, tyX6, rfl, by decide, gm 163 (by decide +kernel) (by decide +kernel), jnX6, tyX6_ok, nmX6, rfl, by decide +kernel⟩
theorem lk_RX6_19 : gLk RX6 19 6 2 := ⟨RX6, TX6, 4, tyX6, rfl, by decide, gm 165 (by decide +kernel) (by decide +kernel), jnX6, tyX6_ok, nmX6⟩
theorem lw_RX6_19 : gLw RX6 19 6 2 (.int) := ⟨RX6, TX6, 4, tyX6, rfl, by decide, gm 165 (by decide +kernel) (by decide +kernel), jnX6, tyX6_ok, nmX6, rfl, by decide +kernel⟩
theorem lk_RX6_22 : gLk RX6 22 6 3 := ⟨RX6, TX6, 4, tyX6, rfl, by decide, gm 167 (by decide +kernel) (by decide +kernel), jnX6, tyX6_ok, nmX6⟩
theorem lw_RX6_22 : gLw RX6 22 6 3 (.int) := ⟨RX6, TX6, 4, tyX6, rfl, by decide, gm 167 (by decide +kernel) (by decide +kernel), jnX6, tyX6_ok, nmX6, rfl, by decide +kernel⟩
theorem lk_RX6_29 : gLk RX6 29 3 8 := ⟨RX3, TX3, 13, tyX3, rfl, by decide, gm 219 (by decide +kernel) (by decide +kernel), jnX3, tyX3_ok, nmX3⟩
theorem lk_RX6_42 : gLk RX6 42 3 6 := ⟨RX3, TX3, 13, tyX3, rfl, by decide, gm 209 (by decide +kernel) (by decide +kernel), jnX3, tyX3_ok, nmX3⟩
theorem lk_RX6_59 : gLk RX6 59 3 5 := ⟨RX3, TX3, 13, tyX3, rfl, by decide, gm 205 (by decide +kernel) (by decide +kernel), jnX3, tyX3_ok, nmX3⟩
theorem lk_RX7_9 : gLk RX7 9 7 0 := ⟨RX7, TX7, 1, tyX7, rfl, by decide, gm 108 (by decide +kernel) (by decide +kernel), jnX7, tyX7_ok, nmX7⟩
theorem lk_RX7_22 : gLk RX7 22 3 7 := ⟨RX3, TX3, 13, tyX3, rfl, by decide, gm 213 (by decide +kernel) (by decide +kernel), jnX3, tyX3_ok, nmX3⟩
theorem lk_RX7_28 : gLk RX7 28 3 0 := ⟨RX3, TX3, 13, tyX3, rfl, by decide, gm 185 (by decide +kernel) (by decide +kernel), jnX3, tyX3_ok, nmX3⟩
theorem lk_RX7_31 : gLk RX7 31 3 1 := ⟨RX3, TX3, 13, tyX3, rfl, by decide, gm 189 (by decide +kernel) (by decide +kernel), jnX3, tyX3_ok, nmX3⟩
theorem lk_RX7_42 : gLk RX7 42 1 0 := ⟨RX1, TX1, 5, tyX1, rfl, by decide, gm 62 (by decide +kernel) (by decide +kernel), jnX1, tyX1_ok, nmX1⟩
theorem lk_RX7_47 : gLk RX7 47 3 2 := ⟨RX3, TX3, 13, tyX3, rfl, by decide, gm 193 (by decide +kernel) (by decide +kernel), jnX3, tyX3_ok, nmX3⟩
theorem lk_RX9_7 : gLk RX9 7 9 1 := ⟨RX9, TX9, 18, tyX9, rfl, by decide, gm 769 (by decide +kernel) (by decide +kernel), jnX9, tyX9_ok, nmX9⟩
theorem lk_RX9_13 : gLk RX9 13 9 3 := ⟨RX9, TX9, 18, tyX9, rfl, by decide, gm 771 (by decide +kernel) (by decide +kernel), jnX9, tyX9_ok, nmX9⟩
theorem lk_RX9_16 : gLk RX9 16 9 4 := ⟨RX9, TX9, 18, tyX9, rfl, by decide, gm 772 (by decide +kernel) (by decide +kernel), jnX9, tyX9_ok, nmX9⟩
theorem lk_RX9_19 : gLk RX9 19 9 5 := ⟨RX9, TX9, 18, tyX9, rfl, by decide, gm 773 (by decide +kernel) (by decide +kernel), jnX9, tyX9_ok, nmX9⟩
theorem lk_RX9_22 : gLk RX9 22 9 6 := ⟨RX9, TX9, 18, tyX9, rfl, by decide, gm 774 (by decide +kernel) (by decide +kernel), jnX9, tyX9_ok, nmX9⟩
theorem lk_RX9_25 : gLk RX9 25 9 7 := ⟨RX9, TX9, 18, tyX9, rfl, by decide, gm 775 (by decide +kernel) (by decide +kernel), jnX9, tyX9_ok, nmX9⟩
theorem lk_RX9_29 : gLk RX9 29 9 12 := ⟨RX9, TX9, 18, tyX9, rfl, by decide, gm 780 (by decide +kernel) (by decide +kernel), jnX9, tyX9_ok, nmX9⟩
theorem lk_RX9_32 : gLk RX9 32 9 13 := ⟨RX9, TX9, 18, tyX9, rfl, by decide, gm 781 (by decide +kernel) (by decide +kernel), jnX9, tyX9_ok, nmX9⟩
theorem lk_RX9_35 : gLk RX9 35 9 14 := ⟨RX9, TX9, 18, tyX9, rfl, by decide, gm 782 (by decide +kernel) (by decide +kernel), jnX9, tyX9_ok, nmX9⟩
theorem lk_RX9_38 : gLk RX9 38 9 15 := ⟨RX9, TX9, 18, tyX9, rfl, by decide, gm 783 (by decide +kernel) (by decide +kernel), jnX9, tyX9_ok, nmX9⟩
theorem lk_RX9_41 : gLk RX9 41 9 16 := ⟨RX9, TX9, 18, tyX9, rfl, by decide, gm 784 (by decide +kernel) (by decide +kernel), jnX9, tyX9_ok, nmX9⟩
theorem lk_RX9_44 : gLk RX9 44 9 17 := ⟨RX9, TX9, 18, tyX9, rfl, by decide, gm 785 (by decide +kernel) (by decide +kernel), jnX9, tyX9_ok, nmX9⟩
theorem lk_RX9_58 : gLk RX9 58 9 2 := ⟨RX9, TX9, 18, tyX9, rfl, by decide, gm 770 (by decide +kernel) (by decide +kernel), jnX9, tyX9_ok, nmX9⟩
theorem lw_RX9_58 : gLw RX9 58 9 2 (.int) := ⟨RX9, TX9, 18, tyX9, rfl, by decide, gm 770 (by decide +kernel) (by decide +kernel), jnX9, tyX9_ok, nmX9, rfl, by decide +kernel⟩
theorem lk_RX9_62 : gLk RX9 62 9 8 := ⟨RX9, TX9, 18, tyX9, rfl, by decide, gm 776 (by decide +kernel) (by decide +kernel), jnX9, tyX9_ok, nmX9⟩
theorem lw_RX9_62 : gLw RX9 62 9 8 (.int) := ⟨RX9, TX9, 18, tyX9, rfl, by decide, gm 776 (by decide +kernel) (by decide +kernel), jnX9, tyX9_ok, nmX9, rfl, by decide +kernel⟩
theorem lk_RX9_69 : gLk RX9 69 9 10 := ⟨RX9, TX9, 18, tyX9, rfl, by decide, gm 778 (by decide +kernel) (by decide +kernel), jnX9, tyX9_ok, nmX9⟩
theorem lw_RX9_69 : gLw RX9 69 9 10 (.int) := ⟨RX9, TX9, 18, tyX9, rfl, by decide, gm 778 (by decide +kernel) (by decide +kernel), jnX9, tyX9_ok, nmX9, rfl, by decide +kernel⟩
theorem lk_RX9_79 : gLk RX9 79 9 9 := ⟨RX9, TX9, 18, tyX9, rfl, by decide, gm 777 (by decide +kernel) (by decide +kernel), jnX9, tyX9_ok, nmX9⟩
theorem lw_RX9_79 : gLw RX9 79 9 9 (.int) := ⟨RX9, TX9, 18, tyX9, rfl, by decide, gm 777 (by decide +kernel) (by decide +kernel), jnX9, tyX9_ok, nmX9, rfl, by decide +kernel⟩
theorem lk_RX9_82 : gLk RX9 82 9 11 := ⟨RX9, TX9, 18, tyX9, rfl, by decide, gm 779 (by decide +kernel) (by decide +kernel), jnX9, tyX9_ok, nmX9⟩
theorem lw_RX9_82 : gLw RX9 82 9 11 (.int) := ⟨RX9, TX9, 18, tyX9, rfl, by decide, gm 779 (by decide +kernel) (by decide +kernel), jnX9, tyX9_ok, nmX9, rfl, by decide +kernel⟩
theorem lk_RX9_165 : gLk RX9 165 9 0 := ⟨RX9, TX9, 18, tyX9, rfl, by decide, gm 768 (by decide +kernel) (by decide +kernel), jnX9, tyX9_ok, nmX9⟩
theorem lw_RX9_165 : gLw RX9 165 9 0 (.long) := ⟨RX9, TX9, 18, tyX9, rfl, by decide, gm 768 (by decide +kernel) (by decide +kernel), jnX9, tyX9_ok, nmX9, rfl, by decide +kernel⟩
theorem cn_RX8_9 : gCn RX8 9 yX4_init RX8 cX4_init 1 none 0 := ⟨by decide +kernel, gm 26 (by decide +kernel) (by decide +kernel), gm 2 (by decide +kernel) (by decide +kernel), ⟨by decide +kernel, by decide +kernel⟩, by decide +kernel⟩
theorem cl_RX8_18 : gCl RX8 18 yX0_init cX0_init 2 none 0 := ⟨gm 51 (by decide +kernel) (by decide +kernel), gm 53 (by decide +kernel) (by decide +kernel), gm 3 (by decide +kernel) (by decide +kernel), ⟨by decide +kernel, by decide +kernel⟩, by decide +kernel⟩
theorem cn_RX8_33 : gCn RX8 33 yX7_init RX8 cX7_init 1 none 0 := ⟨by decide +kernel, gm 106 (by decide +kernel) (by decide +kernel), gm 5 (by decide +kernel) (by decide +kernel), ⟨by decide +kernel, by decide +kernel⟩, by decide +kernel⟩
theorem cn_RX8_40 : gCn RX8 40 yX2_init RX8 cX2_init 1 none 0 := ⟨by decide +kernel, gm 117 (by decide +kernel) (by decide +kernel), gm 6 (by decide +kernel) (by decide +kernel), ⟨by decide +kernel, by decide +kernel⟩, by decide +kernel⟩
theorem cn_RX8_47 : gCn RX8 47 yX5_init RX8 cX5_init 1 none 0 := ⟨by decide +kernel, gm 138 (by decide +kernel) (by decide +kernel), gm 7 (by decide +kernel) (by decide +kernel), ⟨by decide +kernel, by decide +kernel⟩, by decide +kernel⟩
theorem cn_RX8_54 : gCn RX8 54 yX6_init RX8 cX6_init 1 none 0 := ⟨by decide +kernel, gm 160 (by decide +kernel) (by decide +kernel), gm 8 (by decide +kernel) (by decide +kernel), ⟨by decide +kernel, by decide +kernel⟩, by decide +kernel⟩
theorem cn_RX8_61 : gCn RX8 61 yX3_init RX8 cX3_init 1 none 0 := ⟨by decide +kernel, gm 182 (by decide +kernel) (by decide +kernel), gm 9 (by decide +kernel) (by decide +kernel), ⟨by decide +kernel, by decide +kernel⟩, by decide +kernel⟩
theorem cl_RX8_69 : gCl RX8 69 yX4_take cX4_take 2 (some .boolean) 1 := ⟨gm 300 (by decide +kernel) (by decide +kernel), gm 303 (by decide +kernel) (by decide +kernel), gm 2 (by decide +kernel) (by decide +kernel), ⟨by decide +kernel, by decide +kernel⟩, by decide +kernel⟩
theorem cl_RX8_77 : gCl RX8 77 yX4_empty cX4_empty 1 none 0 := ⟨gm 308 (by decide +kernel) (by decide +kernel), gm 311 (by decide +kernel) (by decide +kernel), gm 2 (by decide +kernel) (by decide +kernel), ⟨by decide +kernel, by decide +kernel⟩, by decide +kernel⟩
theorem cl_RX8_80 : gCl RX8 80 yX4_readInto cX4_readInto 4 (some .int) 1 := ⟨gm 316 (by decide +kernel) (by decide +kernel), gm 319 (by decide +kernel) (by decide +kernel), gm 2 (by decide +kernel) (by decide +kernel), ⟨by decide +kernel, by decide +kernel⟩, by decide +kernel⟩
theorem cl_RX8_84 : gCl RX8 84 yX0_begin cX0_begin 2 none 1 := ⟨gm 373 (by decide +kernel) (by decide +kernel), gm 376 (by decide +kernel) (by decide +kernel), gm 3 (by decide +kernel) (by decide +kernel), ⟨by decide +kernel, by decide +kernel⟩, by decide +kernel⟩
theorem cl_RX8_88 : gCl RX8 88 yX3_hasStair cX3_hasStair 2 (some .boolean) 1 := ⟨gm 391 (by decide +kernel) (by decide +kernel), gm 394 (by decide +kernel) (by decide +kernel), gm 9 (by decide +kernel) (by decide +kernel), ⟨by decide +kernel, by decide +kernel⟩, by decide +kernel⟩
theorem cl_RX8_116 : gCl RX8 116 yX8_priceOf cX8_priceOf 2 (some .int) 1 := ⟨gm 395 (by decide +kernel) (by decide +kernel), gm 398 (by decide +kernel) (by decide +kernel), gm 1 (by decide +kernel) (by decide +kernel), ⟨by decide +kernel, by decide +kernel⟩, by decide +kernel⟩
theorem cl_RX8_120 : gCl RX8 120 yX3_hasPerson cX3_hasPerson 2 (some .boolean) 1 := ⟨gm 406 (by decide +kernel) (by decide +kernel), gm 409 (by decide +kernel) (by decide +kernel), gm 9 (by decide +kernel) (by decide +kernel), ⟨by decide +kernel, by decide +kernel⟩, by decide +kernel⟩
theorem cl_RX8_132 : gCl RX8 132 yX3_hasTwoStairs cX3_hasTwoStairs 3 (some .boolean) 2 := ⟨gm 414 (by decide +kernel) (by decide +kernel), gm 417 (by decide +kernel) (by decide +kernel), gm 9 (by decide +kernel) (by decide +kernel), ⟨by decide +kernel, by decide +kernel⟩, by decide +kernel⟩
theorem cl_RX8_139 : gCl RX8 139 yX8_bondAt cX8_bondAt 2 (some .int) 2 := ⟨gm 419 (by decide +kernel) (by decide +kernel), gm 421 (by decide +kernel) (by decide +kernel), gm 1 (by decide +kernel) (by decide +kernel), ⟨by decide +kernel, by decide +kernel⟩, by decide +kernel⟩
theorem cl_RX8_143 : gCl RX8 143 yX0_remember cX0_remember 1 none 0 := ⟨gm 426 (by decide +kernel) (by decide +kernel), gm 429 (by decide +kernel) (by decide +kernel), gm 3 (by decide +kernel) (by decide +kernel), ⟨by decide +kernel, by decide +kernel⟩, by decide +kernel⟩
theorem cl_RX8_146 : gCl RX8 146 yX1_addHurt cX1_addHurt 2 none 1 := ⟨gm 435 (by decide +kernel) (by decide +kernel), gm 438 (by decide +kernel) (by decide +kernel), gm 4 (by decide +kernel) (by decide +kernel), ⟨by decide +kernel, by decide +kernel⟩, by decide +kernel⟩
theorem cl_RX8_150 : gCl RX8 150 yX3_halvesOf cX3_halvesOf 2 (some .int) 1 := ⟨gm 441 (by decide +kernel) (by decide +kernel), gm 444 (by decide +kernel) (by decide +kernel), gm 9 (by decide +kernel) (by decide +kernel), ⟨by decide +kernel, by decide +kernel⟩, by decide +kernel⟩
theorem cl_RX8_153 : gCl RX8 153 yX1_lessen cX1_lessen 3 (some .int) 2 := ⟨gm 445 (by decide +kernel) (by decide +kernel), gm 448 (by decide +kernel) (by decide +kernel), gm 4 (by decide +kernel) (by decide +kernel), ⟨by decide +kernel, by decide +kernel⟩, by decide +kernel⟩
theorem cl_RX8_165 : gCl RX8 165 yX1_endYear cX1_endYear 3 none 1 := ⟨gm 470 (by decide +kernel) (by decide +kernel), gm 473 (by decide +kernel) (by decide +kernel), gm 4 (by decide +kernel) (by decide +kernel), ⟨by decide +kernel, by decide +kernel⟩, by decide +kernel⟩
theorem cl_RX8_171 : gCl RX8 171 yX1_dueOfAll cX1_dueOfAll 4 (some .int) 1 := ⟨gm 474 (by decide +kernel) (by decide +kernel), gm 477 (by decide +kernel) (by decide +kernel), gm 4 (by decide +kernel) (by decide +kernel), ⟨by decide +kernel, by decide +kernel⟩, by decide +kernel⟩
theorem cl_RX8_174 : gCl RX8 174 yX0_takeBack cX0_takeBack 1 (some .boolean) 0 := ⟨gm 482 (by decide +kernel) (by decide +kernel), gm 485 (by decide +kernel) (by decide +kernel), gm 3 (by decide +kernel) (by decide +kernel), ⟨by decide +kernel, by decide +kernel⟩, by decide +kernel⟩
theorem cl_RX8_181 : gCl RX8 181 yX8_stairsPaidOff cX8_stairsPaidOff 3 (some .int) 0 := ⟨gm 490 (by decide +kernel) (by decide +kernel), gm 493 (by decide +kernel) (by decide +kernel), gm 1 (by decide +kernel) (by decide +kernel), ⟨by decide +kernel, by decide +kernel⟩, by decide +kernel⟩
theorem cl_RX8_188 : gCl RX8 188 yX8_dearest cX8_dearest 3 (some .int) 0 := ⟨gm 494 (by decide +kernel) (by decide +kernel), gm 497 (by decide +kernel) (by decide +kernel), gm 1 (by decide +kernel) (by decide +kernel), ⟨by decide +kernel, by decide +kernel⟩, by decide +kernel⟩
theorem cl_RX8_191 : gCl RX8 191 yX5_strikeAll cX5_strikeAll 5 (some .int) 2 := ⟨gm 498 (by decide +kernel) (by decide +kernel), gm 501 (by decide +kernel) (by decide +kernel), gm 7 (by decide +kernel) (by decide +kernel), ⟨by decide +kernel, by decide +kernel⟩, by decide +kernel⟩
theorem cl_RX8_195 : gCl RX8 195 yX8_isFloor cX8_isFloor 1 (some .boolean) 1 := ⟨gm 521 (by decide +kernel) (by decide +kernel), gm 523 (by decide +kernel) (by decide +kernel), gm 1 (by decide +kernel) (by decide +kernel), ⟨by decide +kernel, by decide +kernel⟩, by decide +kernel⟩
theorem cl_RX8_198 : gCl RX8 198 yX7_measure cX7_measure 7 none 4 := ⟨gm 524 (by decide +kernel) (by decide +kernel), gm 527 (by decide +kernel) (by decide +kernel), gm 5 (by decide +kernel) (by decide +kernel), ⟨by decide +kernel, by decide +kernel⟩, by decide +kernel⟩
theorem cl_RX8_202 : gCl RX8 202 yX7_dueFrom cX7_dueFrom 2 (some .int) 1 := ⟨gm 537 (by decide +kernel) (by decide +kernel), gm 540 (by decide +kernel) (by decide +kernel), gm 5 (by decide +kernel) (by decide +kernel), ⟨by decide +kernel, by decide +kernel⟩, by decide +kernel⟩
theorem cl_RX8_205 : gCl RX8 205 yX7_stepsFrom cX7_stepsFrom 2 (some .int) 1 := ⟨gm 541 (by decide +kernel) (by decide +kernel), gm 544 (by decide +kernel) (by decide +kernel), gm 5 (by decide +kernel) (by decide +kernel), ⟨by decide +kernel, by decide +kernel⟩, by decide +kernel⟩
theorem cl_RX8_208 : gCl RX8 208 yX7_firstFrom cX7_firstFrom 6 (some .int) 3 := ⟨gm 545 (by decide +kernel) (by decide +kernel), gm 548 (by decide +kernel) (by decide +kernel), gm 5 (by decide +kernel) (by decide +kernel), ⟨by decide +kernel, by decide +kernel⟩, by decide +kernel⟩
theorem cl_RX8_212 : gCl RX8 212 yX7_barsBetween cX7_barsBetween 7 (some .int) 4 := ⟨gm 553 (by decide +kernel) (by decide +kernel), gm 556 (by decide +kernel) (by decide +kernel), gm 5 (by decide +kernel) (by decide +kernel), ⟨by decide +kernel, by decide +kernel⟩, by decide +kernel⟩
theorem cl_RX8_216 : gCl RX8 216 yX2_payByFalls cX2_payByFalls 5 (some .int) 3 := ⟨gm 562 (by decide +kernel) (by decide +kernel), gm 565 (by decide +kernel) (by decide +kernel), gm 6 (by decide +kernel) (by decide +kernel), ⟨by decide +kernel, by decide +kernel⟩, by decide +kernel⟩
theorem cl_RX8_220 : gCl RX8 220 yX8_isAsked cX8_isAsked 1 (some .boolean) 1 := ⟨gm 587 (by decide +kernel) (by decide +kernel), gm 589 (by decide +kernel) (by decide +kernel), gm 1 (by decide +kernel) (by decide +kernel), ⟨by decide +kernel, by decide +kernel⟩, by decide +kernel⟩
theorem cl_RX8_223 : gCl RX8 223 yX2_spend cX2_spend 6 none 3 := ⟨gm 590 (by decide +kernel) (by decide +kernel), gm 593 (by decide +kernel) (by decide +kernel), gm 6 (by decide +kernel) (by decide +kernel), ⟨by decide +kernel, by decide +kernel⟩, by decide +kernel⟩
theorem cl_RX8_227 : gCl RX8 227 yX2_leastDue cX2_leastDue 2 (some .int) 1 := ⟨gm 605 (by decide +kernel) (by decide +kernel), gm 608 (by decide +kernel) (by decide +kernel), gm 6 (by decide +kernel) (by decide +kernel), ⟨by decide +kernel, by decide +kernel⟩, by decide +kernel⟩
theorem cl_RX8_230 : gCl RX8 230 yX2_fewestCoins cX2_fewestCoins 2 (some .int) 1 := ⟨gm 609 (by decide +kernel) (by decide +kernel), gm 612 (by decide +kernel) (by decide +kernel), gm 6 (by decide +kernel) (by decide +kernel), ⟨by decide +kernel, by decide +kernel⟩, by decide +kernel⟩
theorem cl_RX8_233 : gCl RX8 233 yX2_coinsFor cX2_coinsFor 5 (some .int) 2 := ⟨gm 613 (by decide +kernel) (by decide +kernel), gm 616 (by decide +kernel) (by decide +kernel), gm 6 (by decide +kernel) (by decide +kernel), ⟨by decide +kernel, by decide +kernel⟩, by decide +kernel⟩
theorem cl_RX8_236 : gCl RX8 236 yX2_yearsTillFree cX2_yearsTillFree 5 (some .int) 3 := ⟨gm 625 (by decide +kernel) (by decide +kernel), gm 627 (by decide +kernel) (by decide +kernel), gm 6 (by decide +kernel) (by decide +kernel), ⟨by decide +kernel, by decide +kernel⟩, by decide +kernel⟩
theorem cl_RX8_240 : gCl RX8 240 yX6_search cX6_search 5 none 4 := ⟨gm 632 (by decide +kernel) (by decide +kernel), gm 635 (by decide +kernel) (by decide +kernel), gm 8 (by decide +kernel) (by decide +kernel), ⟨by decide +kernel, by decide +kernel⟩, by decide +kernel⟩
theorem cl_RX8_253 : gCl RX8 253 yX6_oddsOf cX6_oddsOf 7 (some .int) 3 := ⟨gm 648 (by decide +kernel) (by decide +kernel), gm 651 (by decide +kernel) (by decide +kernel), gm 8 (by decide +kernel) (by decide +kernel), ⟨by decide +kernel, by decide +kernel⟩, by decide +kernel⟩
theorem cl_RX8_257 : gCl RX8 257 yX8_asStair cX8_asStair 2 (some .int) 1 := ⟨gm 665 (by decide +kernel) (by decide +kernel), gm 668 (by decide +kernel) (by decide +kernel), gm 1 (by decide +kernel) (by decide +kernel), ⟨by decide +kernel, by decide +kernel⟩, by decide +kernel⟩
theorem cl_RX8_260 : gCl RX8 260 yX8_asMarble cX8_asMarble 2 (some .int) 1 := ⟨gm 669 (by decide +kernel) (by decide +kernel), gm 672 (by decide +kernel) (by decide +kernel), gm 1 (by decide +kernel) (by decide +kernel), ⟨by decide +kernel, by decide +kernel⟩, by decide +kernel⟩
theorem cl_RX8_263 : gCl RX8 263 yX8_asLadder cX8_asLadder 2 (some .int) 1 := ⟨gm 674 (by decide +kernel) (by decide +kernel), gm 677 (by decide +kernel) (by decide +kernel), gm 1 (by decide +kernel) (by decide +kernel), ⟨by decide +kernel, by decide +kernel⟩, by decide +kernel⟩
theorem cl_RX8_266 : gCl RX8 266 yX8_asChurch cX8_asChurch 2 (some .int) 1 := ⟨gm 679 (by decide +kernel) (by decide +kernel), gm 682 (by decide +kernel) (by decide +kernel), gm 1 (by decide +kernel) (by decide +kernel), ⟨by decide +kernel, by decide +kernel⟩, by decide +kernel⟩
theorem cl_RX8_269 : gCl RX8 269 yX8_asLift cX8_asLift 2 (some .int) 1 := ⟨gm 684 (by decide +kernel) (by decide +kernel), gm 687 (by decide +kernel) (by decide +kernel), gm 1 (by decide +kernel) (by decide +kernel), ⟨by decide +kernel, by decide +kernel⟩, by decide +kernel⟩
theorem cl_RX8_272 : gCl RX8 272 yX8_asTower cX8_asTower 2 (some .int) 1 := ⟨gm 689 (by decide +kernel) (by decide +kernel), gm 692 (by decide +kernel) (by decide +kernel), gm 1 (by decide +kernel) (by decide +kernel), ⟨by decide +kernel, by decide +kernel⟩, by decide +kernel⟩
theorem cl_RX8_275 : gCl RX8 275 yX8_isImage cX8_isImage 1 (some .boolean) 1 := ⟨gm 698 (by decide +kernel) (by decide +kernel), gm 700 (by decide +kernel) (by decide +kernel), gm 1 (by decide +kernel) (by decide +kernel), ⟨by decide +kernel, by decide +kernel⟩, by decide +kernel⟩
theorem cl_RX8_278 : gCl RX8 278 yX0_copyFrom cX0_copyFrom 3 none 1 := ⟨gm 701 (by decide +kernel) (by decide +kernel), gm 704 (by decide +kernel) (by decide +kernel), gm 3 (by decide +kernel) (by decide +kernel), ⟨by decide +kernel, by decide +kernel⟩, by decide +kernel⟩
theorem cl_RX8_289 : gCl RX8 289 yJ9_max_7cf53 cJ9_max_7cf53 2 (some .int) 2 := ⟨gm 399 (by decide +kernel) (by decide +kernel), gm 401 (by decide +kernel) (by decide +kernel), gm 11 (by decide +kernel) (by decide +kernel), ⟨by decide +kernel, by decide +kernel⟩, by decide +kernel⟩
theorem cn_RX0_11 : gCn RX0 11 yX1_init RX8 cX1_init 1 none 0 := ⟨by decide +kernel, gm 59 (by decide +kernel) (by decide +kernel), gm 4 (by decide +kernel) (by decide +kernel), ⟨by decide +kernel, by decide +kernel⟩, by decide +kernel⟩
theorem cl_RX0_29 : gCl RX0 29 yX1_begin cX1_begin 2 none 1 := ⟨gm 377 (by decide +kernel) (by decide +kernel), gm 380 (by decide +kernel) (by decide +kernel), gm 4 (by decide +kernel) (by decide +kernel), ⟨by decide +kernel, by decide +kernel⟩, by decide +kernel⟩
theorem cl_RX0_33 : gCl RX0 33 yX1_copyFrom cX1_copyFrom 2 none 1 := ⟨gm 430 (by decide +kernel) (by decide +kernel), gm 433 (by decide +kernel) (by decide +kernel), gm 4 (by decide +kernel) (by decide +kernel), ⟨by decide +kernel, by decide +kernel⟩, by decide +kernel⟩
theorem cl_RX0_37 : gCl RX0 37 yJ9_min_7cf53 cJ9_min_7cf53 2 (some .int) 2 := ⟨gm 434 (by decide +kernel) (by decide +kernel), gm 344 (by decide +kernel) (by decide +kernel), gm 11 (by decide +kernel) (by decide +kernel), ⟨by decide +kernel, by decide +kernel⟩, by decide +kernel⟩
theorem cl_RX1_39 : gCl RX1 39 yJ7_fill_53178 cJ7_fill_53178 4 none 2 := ⟨gm 384 (by decide +kernel) (by decide +kernel), gm 386 (by decide +kernel) (by decide +kernel), gm 13 (by decide +kernel) (by decide +kernel), ⟨by decide +kernel, by decide +kernel⟩, by decide +kernel⟩
theorem cl_RX1_45 : gCl RX1 45 yJ9_max_7cf53 cJ9_max_7cf53 2 (some .int) 2 := ⟨gm 449 (by decide +kernel) (by decide +kernel), gm 401 (by decide +kernel) (by decide +kernel), gm 11 (by decide +kernel) (by decide +kernel), ⟨by decide +kernel, by decide +kernel⟩, by decide +kernel⟩
theorem cl_RX1_52 : gCl RX1 52 yJ9_min_7cf53 cJ9_min_7cf53 2 (some .int) 2 := ⟨gm 440 (by decide +kernel) (by decide +kernel), gm 344 (by decide +kernel) (by decide +kernel), gm 11 (by decide +kernel) (by decide +kernel), ⟨by decide +kernel, by decide +kernel⟩, by decide +kernel⟩
theorem cl_RX2_26 : gCl RX2 26 yX2_gatherFalls cX2_gatherFalls 4 none 1 := ⟨gm 566 (by decide +kernel) (by decide +kernel), gm 569 (by decide +kernel) (by decide +kernel), gm 6 (by decide +kernel) (by decide +kernel), ⟨by decide +kernel, by decide +kernel⟩, by decide +kernel⟩
theorem cl_RX2_30 : gCl RX2 30 yX2_cheapestFor cX2_cheapestFor 5 (some .int) 1 := ⟨gm 578 (by decide +kernel) (by decide +kernel), gm 581 (by decide +kernel) (by decide +kernel), gm 6 (by decide +kernel) (by decide +kernel), ⟨by decide +kernel, by decide +kernel⟩, by decide +kernel⟩
theorem cl_RX2_35 : gCl RX2 35 yJ7_fill_53178 cJ7_fill_53178 4 none 2 := ⟨gm 571 (by decide +kernel) (by decide +kernel), gm 386 (by decide +kernel) (by decide +kernel), gm 13 (by decide +kernel) (by decide +kernel), ⟨by decide +kernel, by decide +kernel⟩, by decide +kernel⟩
theorem cl_RX2_47 : gCl RX2 47 yX3_halvesOf cX3_halvesOf 2 (some .int) 1 := ⟨gm 572 (by decide +kernel) (by decide +kernel), gm 444 (by decide +kernel) (by decide +kernel), gm 9 (by decide +kernel) (by decide +kernel), ⟨by decide +kernel, by decide +kernel⟩, by decide +kernel⟩
theorem cl_RX2_53 : gCl RX2 53 yX2_offerFall cX2_offerFall 3 none 2 := ⟨gm 573 (by decide +kernel) (by decide +kernel), gm 576 (by decide +kernel) (by decide +kernel), gm 6 (by decide +kernel) (by decide +kernel), ⟨by decide +kernel, by decide +kernel⟩, by decide +kernel⟩
theorem cl_RX2_60 : gCl RX2 60 yJ9_min_7cf53 cJ9_min_7cf53 2 (some .int) 2 := ⟨gm 577 (by decide +kernel) (by decide +kernel), gm 344 (by decide +kernel) (by decide +kernel), gm 11 (by decide +kernel) (by decide +kernel), ⟨by decide +kernel, by decide +kernel⟩, by decide +kernel⟩
theorem cl_RX2_66 : gCl RX2 66 yJ9_max_7cf53 cJ9_max_7cf53 2 (some .int) 2 := ⟨gm 582 (by decide +kernel) (by decide +kernel), gm 401 (by decide +kernel) (by decide +kernel), gm 11 (by decide +kernel) (by decide +kernel), ⟨by decide +kernel, by decide +kernel⟩, by decide +kernel⟩
theorem cl_RX2_83 : gCl RX2 83 yX2_dueWithCoins cX2_dueWithCoins 5 (some .int) 3 := ⟨gm 594 (by decide +kernel) (by decide +kernel), gm 596 (by decide +kernel) (by decide +kernel), gm 6 (by decide +kernel) (by decide +kernel), ⟨by decide +kernel, by decide +kernel⟩, by decide +kernel⟩
theorem cl_RX2_87 : gCl RX2 87 yX2_leastWith cX2_leastWith 5 (some .int) 2 := ⟨gm 597 (by decide +kernel) (by decide +kernel), gm 600 (by decide +kernel) (by decide +kernel), gm 6 (by decide +kernel) (by decide +kernel), ⟨by decide +kernel, by decide +kernel⟩, by decide +kernel⟩
theorem cl_RX2_90 : gCl RX2 90 yX2_spentOn cX2_spentOn 4 (some .int) 3 := ⟨gm 601 (by decide +kernel) (by decide +kernel), gm 604 (by decide +kernel) (by decide +kernel), gm 6 (by decide +kernel) (by decide +kernel), ⟨by decide +kernel, by decide +kernel⟩, by decide +kernel⟩
theorem cl_RX2_93 : gCl RX2 93 yX2_fewerCoins cX2_fewerCoins 4 (some .int) 2 := ⟨gm 617 (by decide +kernel) (by decide +kernel), gm 620 (by decide +kernel) (by decide +kernel), gm 6 (by decide +kernel) (by decide +kernel), ⟨by decide +kernel, by decide +kernel⟩, by decide +kernel⟩
theorem cl_RX3_53 : gCl RX3 53 yX3_hasStair cX3_hasStair 2 (some .boolean) 1 := ⟨gm 418 (by decide +kernel) (by decide +kernel), gm 394 (by decide +kernel) (by decide +kernel), gm 9 (by decide +kernel) (by decide +kernel), ⟨by decide +kernel, by decide +kernel⟩, by decide +kernel⟩
theorem cl_RX4_31 : gCl RX4 31 yX3_forget cX3_forget 1 none 0 := ⟨gm 320 (by decide +kernel) (by decide +kernel), gm 323 (by decide +kernel) (by decide +kernel), gm 9 (by decide +kernel) (by decide +kernel), ⟨by decide +kernel, by decide +kernel⟩, by decide +kernel⟩
theorem cl_RX4_36 : gCl RX4 36 yX4_nextToken cX4_nextToken 1 none 0 := ⟨gm 324 (by decide +kernel) (by decide +kernel), gm 327 (by decide +kernel) (by decide +kernel), gm 2 (by decide +kernel) (by decide +kernel), ⟨by decide +kernel, by decide +kernel⟩, by decide +kernel⟩
theorem cl_RX4_39 : gCl RX4 39 yX4_readItem cX4_readItem 2 (some .boolean) 1 := ⟨gm 345 (by decide +kernel) (by decide +kernel), gm 348 (by decide +kernel) (by decide +kernel), gm 2 (by decide +kernel) (by decide +kernel), ⟨by decide +kernel, by decide +kernel⟩, by decide +kernel⟩
theorem cl_RX4_43 : gCl RX4 43 yX4_readStair cX4_readStair 3 (some .boolean) 1 := ⟨gm 349 (by decide +kernel) (by decide +kernel), gm 352 (by decide +kernel) (by decide +kernel), gm 2 (by decide +kernel) (by decide +kernel), ⟨by decide +kernel, by decide +kernel⟩, by decide +kernel⟩
theorem cl_RX4_46 : gCl RX4 46 yX4_readStop cX4_readStop 1 (some .boolean) 0 := ⟨gm 357 (by decide +kernel) (by decide +kernel), gm 360 (by decide +kernel) (by decide +kernel), gm 2 (by decide +kernel) (by decide +kernel), ⟨by decide +kernel, by decide +kernel⟩, by decide +kernel⟩
theorem cl_RX4_50 : gCl RX4 50 yX4_readPerson cX4_readPerson 3 (some .boolean) 1 := ⟨gm 361 (by decide +kernel) (by decide +kernel), gm 364 (by decide +kernel) (by decide +kernel), gm 2 (by decide +kernel) (by decide +kernel), ⟨by decide +kernel, by decide +kernel⟩, by decide +kernel⟩
theorem cl_RX4_53 : gCl RX4 53 yX4_readDolls cX4_readDolls 2 (some .boolean) 1 := ⟨gm 365 (by decide +kernel) (by decide +kernel), gm 368 (by decide +kernel) (by decide +kernel), gm 2 (by decide +kernel) (by decide +kernel), ⟨by decide +kernel, by decide +kernel⟩, by decide +kernel⟩
theorem cl_RX4_56 : gCl RX4 56 yX4_readPair cX4_readPair 2 (some .boolean) 1 := ⟨gm 369 (by decide +kernel) (by decide +kernel), gm 372 (by decide +kernel) (by decide +kernel), gm 2 (by decide +kernel) (by decide +kernel), ⟨by decide +kernel, by decide +kernel⟩, by decide +kernel⟩
theorem cl_RX4_62 : gCl RX4 62 yX4_readNumber cX4_readNumber 3 (some .boolean) 2 := ⟨gm 353 (by decide +kernel) (by decide +kernel), gm 356 (by decide +kernel) (by decide +kernel), gm 2 (by decide +kernel) (by decide +kernel), ⟨by decide +kernel, by decide +kernel⟩, by decide +kernel⟩
theorem cl_RX4_103 : gCl RX4 103 yX4_isLetter cX4_isLetter 1 (some .boolean) 1 := ⟨gm 328 (by decide +kernel) (by decide +kernel), gm 330 (by decide +kernel) (by decide +kernel), gm 2 (by decide +kernel) (by decide +kernel), ⟨by decide +kernel, by decide +kernel⟩, by decide +kernel⟩
theorem cl_RX4_107 : gCl RX4 107 yX4_takeWord cX4_takeWord 1 none 0 := ⟨gm 331 (by decide +kernel) (by decide +kernel), gm 334 (by decide +kernel) (by decide +kernel), gm 2 (by decide +kernel) (by decide +kernel), ⟨by decide +kernel, by decide +kernel⟩, by decide +kernel⟩
theorem cl_RX4_110 : gCl RX4 110 yX4_isDigit cX4_isDigit 1 (some .boolean) 1 := ⟨gm 335 (by decide +kernel) (by decide +kernel), gm 337 (by decide +kernel) (by decide +kernel), gm 2 (by decide +kernel) (by decide +kernel), ⟨by decide +kernel, by decide +kernel⟩, by decide +kernel⟩
theorem cl_RX4_113 : gCl RX4 113 yX4_takeNumber cX4_takeNumber 3 none 0 := ⟨gm 338 (by decide +kernel) (by decide +kernel), gm 341 (by decide +kernel) (by decide +kernel), gm 2 (by decide +kernel) (by decide +kernel), ⟨by decide +kernel, by decide +kernel⟩, by decide +kernel⟩
theorem cl_RX4_116 : gCl RX4 116 yJ9_min_7cf53 cJ9_min_7cf53 2 (some .int) 2 := ⟨gm 342 (by decide +kernel) (by decide +kernel), gm 344 (by decide +kernel) (by decide +kernel), gm 11 (by decide +kernel) (by decide +kernel), ⟨by decide +kernel, by decide +kernel⟩, by decide +kernel⟩
theorem cl_RX5_34 : gCl RX5 34 yX5_goOn cX5_goOn 6 none 3 := ⟨gm 503 (by decide +kernel) (by decide +kernel), gm 505 (by decide +kernel) (by decide +kernel), gm 7 (by decide +kernel) (by decide +kernel), ⟨by decide +kernel, by decide +kernel⟩, by decide +kernel⟩
theorem cl_RX5_38 : gCl RX5 38 yX5_strikeRow cX5_strikeRow 3 none 0 := ⟨gm 506 (by decide +kernel) (by decide +kernel), gm 509 (by decide +kernel) (by decide +kernel), gm 7 (by decide +kernel) (by decide +kernel), ⟨by decide +kernel, by decide +kernel⟩, by decide +kernel⟩
theorem cn_RX5_41 : gCn RX5 41 yX8_bondAt RX8 cX8_bondAt 2 (some .int) 2 := ⟨by decide +kernel, gm 421 (by decide +kernel) (by decide +kernel), gm 1 (by decide +kernel) (by decide +kernel), ⟨by decide +kernel, by decide +kernel⟩, by decide +kernel⟩
theorem cl_RX5_46 : gCl RX5 46 yX5_linkAt cX5_linkAt 2 (some .int) 1 := ⟨gm 511 (by decide +kernel) (by decide +kernel), gm 514 (by decide +kernel) (by decide +kernel), gm 7 (by decide +kernel) (by decide +kernel), ⟨by decide +kernel, by decide +kernel⟩, by decide +kernel⟩
theorem cl_RX5_50 : gCl RX5 50 yJ9_min_7cf53 cJ9_min_7cf53 2 (some .int) 2 := ⟨gm 516 (by decide +kernel) (by decide +kernel), gm 344 (by decide +kernel) (by decide +kernel), gm 11 (by decide +kernel) (by decide +kernel), ⟨by decide +kernel, by decide +kernel⟩, by decide +kernel⟩
theorem cl_RX6_25 : gCl RX6 25 yX6_accuse cX6_accuse 11 none 7 := ⟨gm 636 (by decide +kernel) (by decide +kernel), gm 638 (by decide +kernel) (by decide +kernel), gm 8 (by decide +kernel) (by decide +kernel), ⟨by decide +kernel, by decide +kernel⟩, by decide +kernel⟩
theorem cl_RX6_34 : gCl RX6 34 yX6_note cX6_note 2 none 1 := ⟨gm 639 (by decide +kernel) (by decide +kernel), gm 642 (by decide +kernel) (by decide +kernel), gm 8 (by decide +kernel) (by decide +kernel), ⟨by decide +kernel, by decide +kernel⟩, by decide +kernel⟩
theorem cl_RX6_38 : gCl RX6 38 yX3_halvesOf cX3_halvesOf 2 (some .int) 1 := ⟨gm 643 (by decide +kernel) (by decide +kernel), gm 444 (by decide +kernel) (by decide +kernel), gm 9 (by decide +kernel) (by decide +kernel), ⟨by decide +kernel, by decide +kernel⟩, by decide +kernel⟩
theorem cl_RX6_45 : gCl RX6 45 yX6_spreadChances cX6_spreadChances 7 (some .int) 1 := ⟨gm 652 (by decide +kernel) (by decide +kernel), gm 655 (by decide +kernel) (by decide +kernel), gm 8 (by decide +kernel) (by decide +kernel), ⟨by decide +kernel, by decide +kernel⟩, by decide +kernel⟩
theorem cl_RX6_49 : gCl RX6 49 yX6_commonDivisor cX6_commonDivisor 4 (some .int) 2 := ⟨gm 657 (by decide +kernel) (by decide +kernel), gm 659 (by decide +kernel) (by decide +kernel), gm 8 (by decide +kernel) (by decide +kernel), ⟨by decide +kernel, by decide +kernel⟩, by decide +kernel⟩
theorem cl_RX6_53 : gCl RX6 53 yJ7_fill_53178 cJ7_fill_53178 4 none 2 := ⟨gm 656 (by decide +kernel) (by decide +kernel), gm 386 (by decide +kernel) (by decide +kernel), gm 13 (by decide +kernel) (by decide +kernel), ⟨by decide +kernel, by decide +kernel⟩, by decide +kernel⟩
theorem cl_RX7_16 : gCl RX7 16 yJ7_fill_53178 cJ7_fill_53178 4 none 2 := ⟨gm 529 (by decide +kernel) (by decide +kernel), gm 386 (by decide +kernel) (by decide +kernel), gm 13 (by decide +kernel) (by decide +kernel), ⟨by decide +kernel, by decide +kernel⟩, by decide +kernel⟩
theorem cl_RX7_34 : gCl RX7 34 yX7_weight cX7_weight 3 (some .int) 3 := ⟨gm 530 (by decide +kernel) (by decide +kernel), gm 532 (by decide +kernel) (by decide +kernel), gm 5 (by decide +kernel) (by decide +kernel), ⟨by decide +kernel, by decide +kernel⟩, by decide +kernel⟩
theorem cl_RX7_38 : gCl RX7 38 yX7_goBy cX7_goBy 4 none 3 := ⟨gm 533 (by decide +kernel) (by decide +kernel), gm 536 (by decide +kernel) (by decide +kernel), gm 5 (by decide +kernel) (by decide +kernel), ⟨by decide +kernel, by decide +kernel⟩, by decide +kernel⟩
theorem cl_RX7_50 : gCl RX7 50 yX7_measure cX7_measure 7 none 4 := ⟨gm 557 (by decide +kernel) (by decide +kernel), gm 527 (by decide +kernel) (by decide +kernel), gm 5 (by decide +kernel) (by decide +kernel), ⟨by decide +kernel, by decide +kernel⟩, by decide +kernel⟩
theorem cl_RL_9 : gCl RL 9 yX8_init cX8_init 2 none 0 := ⟨gm 16 (by decide +kernel) (by decide +kernel), gm 18 (by decide +kernel) (by decide +kernel), gm 1 (by decide +kernel) (by decide +kernel), ⟨by decide +kernel, by decide +kernel⟩, by decide +kernel⟩
theorem cl_RL_12 : gCl RL 12 yX9_init cX9_init 1 none 0 := ⟨gm 719 (by decide +kernel) (by decide +kernel), gm 721 (by decide +kernel) (by decide +kernel), gm 10 (by decide +kernel) (by decide +kernel), ⟨by decide +kernel, by decide +kernel⟩, by decide +kernel⟩
theorem cl_RL_13 : gCl RL 13 yX8_type cX8_type 2 (some .int) 1 := ⟨gm 296 (by decide +kernel) (by decide +kernel), gm 299 (by decide +kernel) (by decide +kernel), gm 1 (by decide +kernel) (by decide +kernel), ⟨by decide +kernel, by decide +kernel⟩, by decide +kernel⟩
theorem cl_RL_17 : gCl RL 17 yX9_type cX9_type 2 (some .int) 1 := ⟨gm 823 (by decide +kernel) (by decide +kernel), gm 826 (by decide +kernel) (by decide +kernel), gm 10 (by decide +kernel) (by decide +kernel), ⟨by decide +kernel, by decide +kernel⟩, by decide +kernel⟩
theorem cl_RL_18 : gCl RL 18 yX8_clear cX8_clear 2 (some .int) 0 := ⟨gm 304 (by decide +kernel) (by decide +kernel), gm 307 (by decide +kernel) (by decide +kernel), gm 1 (by decide +kernel) (by decide +kernel), ⟨by decide +kernel, by decide +kernel⟩, by decide +kernel⟩
theorem cl_RL_22 : gCl RL 22 yX9_clear cX9_clear 2 (some .int) 0 := ⟨gm 827 (by decide +kernel) (by decide +kernel), gm 830 (by decide +kernel) (by decide +kernel), gm 10 (by decide +kernel) (by decide +kernel), ⟨by decide +kernel, by decide +kernel⟩, by decide +kernel⟩
theorem cl_RL_23 : gCl RL 23 yX8_house cX8_house 4 (some .int) 0 := ⟨gm 312 (by decide +kernel) (by decide +kernel), gm 315 (by decide +kernel) (by decide +kernel), gm 1 (by decide +kernel) (by decide +kernel), ⟨by decide +kernel, by decide +kernel⟩, by decide +kernel⟩
theorem cl_RL_26 : gCl RL 26 yX9_house cX9_house 1 (some .int) 0 := ⟨gm 831 (by decide +kernel) (by decide +kernel), gm 834 (by decide +kernel) (by decide +kernel), gm 10 (by decide +kernel) (by decide +kernel), ⟨by decide +kernel, by decide +kernel⟩, by decide +kernel⟩
theorem cl_RL_27 : gCl RL 27 yX8_stair cX8_stair 3 (some .int) 2 := ⟨gm 387 (by decide +kernel) (by decide +kernel), gm 390 (by decide +kernel) (by decide +kernel), gm 1 (by decide +kernel) (by decide +kernel), ⟨by decide +kernel, by decide +kernel⟩, by decide +kernel⟩
theorem cl_RL_31 : gCl RL 31 yX9_stair cX9_stair 3 (some .int) 2 := ⟨gm 835 (by decide +kernel) (by decide +kernel), gm 838 (by decide +kernel) (by decide +kernel), gm 10 (by decide +kernel) (by decide +kernel), ⟨by decide +kernel, by decide +kernel⟩, by decide +kernel⟩
theorem cl_RL_32 : gCl RL 32 yX8_person cX8_person 3 (some .int) 2 := ⟨gm 402 (by decide +kernel) (by decide +kernel), gm 405 (by decide +kernel) (by decide +kernel), gm 1 (by decide +kernel) (by decide +kernel), ⟨by decide +kernel, by decide +kernel⟩, by decide +kernel⟩
theorem cl_RL_35 : gCl RL 35 yX9_person cX9_person 3 (some .int) 2 := ⟨gm 847 (by decide +kernel) (by decide +kernel), gm 850 (by decide +kernel) (by decide +kernel), gm 10 (by decide +kernel) (by decide +kernel), ⟨by decide +kernel, by decide +kernel⟩, by decide +kernel⟩
theorem cl_RL_36 : gCl RL 36 yX8_bond cX8_bond 3 (some .int) 2 := ⟨gm 410 (by decide +kernel) (by decide +kernel), gm 413 (by decide +kernel) (by decide +kernel), gm 1 (by decide +kernel) (by decide +kernel), ⟨by decide +kernel, by decide +kernel⟩, by decide +kernel⟩
theorem cl_RL_39 : gCl RL 39 yX9_bond cX9_bond 3 (some .int) 2 := ⟨gm 855 (by decide +kernel) (by decide +kernel), gm 858 (by decide +kernel) (by decide +kernel), gm 10 (by decide +kernel) (by decide +kernel), ⟨by decide +kernel, by decide +kernel⟩, by decide +kernel⟩
theorem cl_RL_40 : gCl RL 40 yX8_falls cX8_falls 3 (some .int) 2 := ⟨gm 422 (by decide +kernel) (by decide +kernel), gm 425 (by decide +kernel) (by decide +kernel), gm 1 (by decide +kernel) (by decide +kernel), ⟨by decide +kernel, by decide +kernel⟩, by decide +kernel⟩
theorem cl_RL_43 : gCl RL 43 yX9_falls cX9_falls 3 (some .int) 2 := ⟨gm 859 (by decide +kernel) (by decide +kernel), gm 862 (by decide +kernel) (by decide +kernel), gm 10 (by decide +kernel) (by decide +kernel), ⟨by decide +kernel, by decide +kernel⟩, by decide +kernel⟩
theorem cl_RL_44 : gCl RL 44 yX8_together cX8_together 4 (some .int) 3 := ⟨gm 450 (by decide +kernel) (by decide +kernel), gm 453 (by decide +kernel) (by decide +kernel), gm 1 (by decide +kernel) (by decide +kernel), ⟨by decide +kernel, by decide +kernel⟩, by decide +kernel⟩
theorem cl_RL_48 : gCl RL 48 yX9_together cX9_together 4 (some .int) 3 := ⟨gm 876 (by decide +kernel) (by decide +kernel), gm 879 (by decide +kernel) (by decide +kernel), gm 10 (by decide +kernel) (by decide +kernel), ⟨by decide +kernel, by decide +kernel⟩, by decide +kernel⟩
theorem cl_RL_49 : gCl RL 49 yX8_throwsDoll cX8_throwsDoll 2 (some .int) 1 := ⟨gm 454 (by decide +kernel) (by decide +kernel), gm 457 (by decide +kernel) (by decide +kernel), gm 1 (by decide +kernel) (by decide +kernel), ⟨by decide +kernel, by decide +kernel⟩, by decide +kernel⟩
theorem cl_RL_52 : gCl RL 52 yX9_throwsDoll cX9_throwsDoll 2 (some .int) 1 := ⟨gm 880 (by decide +kernel) (by decide +kernel), gm 883 (by decide +kernel) (by decide +kernel), gm 10 (by decide +kernel) (by decide +kernel), ⟨by decide +kernel, by decide +kernel⟩, by decide +kernel⟩
theorem cl_RL_53 : gCl RL 53 yX8_sells cX8_sells 5 (some .int) 3 := ⟨gm 458 (by decide +kernel) (by decide +kernel), gm 461 (by decide +kernel) (by decide +kernel), gm 1 (by decide +kernel) (by decide +kernel), ⟨by decide +kernel, by decide +kernel⟩, by decide +kernel⟩
theorem cl_RL_56 : gCl RL 56 yX9_sells cX9_sells 4 (some .int) 3 := ⟨gm 884 (by decide +kernel) (by decide +kernel), gm 887 (by decide +kernel) (by decide +kernel), gm 10 (by decide +kernel) (by decide +kernel), ⟨by decide +kernel, by decide +kernel⟩, by decide +kernel⟩
theorem cl_RL_57 : gCl RL 57 yX8_redeems cX8_redeems 3 (some .int) 1 := ⟨gm 462 (by decide +kernel) (by decide +kernel), gm 465 (by decide +kernel) (by decide +kernel), gm 1 (by decide +kernel) (by decide +kernel), ⟨by decide +kernel, by decide +kernel⟩, by decide +kernel⟩
theorem cl_RL_60 : gCl RL 60 yX9_redeems cX9_redeems 3 (some .int) 1 := ⟨gm 888 (by decide +kernel) (by decide +kernel), gm 891 (by decide +kernel) (by decide +kernel), gm 10 (by decide +kernel) (by decide +kernel), ⟨by decide +kernel, by decide +kernel⟩, by decide +kernel⟩
theorem cl_RL_61 : gCl RL 61 yX8_ends cX8_ends 1 (some .int) 0 := ⟨gm 466 (by decide +kernel) (by decide +kernel), gm 469 (by decide +kernel) (by decide +kernel), gm 1 (by decide +kernel) (by decide +kernel), ⟨by decide +kernel, by decide +kernel⟩, by decide +kernel⟩
theorem cl_RL_64 : gCl RL 64 yX9_ends cX9_ends 2 (some .int) 0 := ⟨gm 892 (by decide +kernel) (by decide +kernel), gm 895 (by decide +kernel) (by decide +kernel), gm 10 (by decide +kernel) (by decide +kernel), ⟨by decide +kernel, by decide +kernel⟩, by decide +kernel⟩
theorem cl_RL_65 : gCl RL 65 yX8_undo cX8_undo 1 (some .int) 0 := ⟨gm 478 (by decide +kernel) (by decide +kernel), gm 481 (by decide +kernel) (by decide +kernel), gm 1 (by decide +kernel) (by decide +kernel), ⟨by decide +kernel, by decide +kernel⟩, by decide +kernel⟩
theorem cl_RL_68 : gCl RL 68 yX9_undo cX9_undo 3 (some .int) 0 := ⟨gm 903 (by decide +kernel) (by decide +kernel), gm 906 (by decide +kernel) (by decide +kernel), gm 10 (by decide +kernel) (by decide +kernel), ⟨by decide +kernel, by decide +kernel⟩, by decide +kernel⟩
theorem cl_RL_69 : gCl RL 69 yX8_now cX8_now 2 (some .int) 1 := ⟨gm 486 (by decide +kernel) (by decide +kernel), gm 489 (by decide +kernel) (by decide +kernel), gm 1 (by decide +kernel) (by decide +kernel), ⟨by decide +kernel, by decide +kernel⟩, by decide +kernel⟩
theorem cl_RL_72 : gCl RL 72 yX9_now cX9_now 4 (some .int) 1 := ⟨gm 907 (by decide +kernel) (by decide +kernel), gm 910 (by decide +kernel) (by decide +kernel), gm 10 (by decide +kernel) (by decide +kernel), ⟨by decide +kernel, by decide +kernel⟩, by decide +kernel⟩
theorem cl_RL_73 : gCl RL 73 yX8_surest cX8_surest 4 (some .int) 3 := ⟨gm 517 (by decide +kernel) (by decide +kernel), gm 520 (by decide +kernel) (by decide +kernel), gm 1 (by decide +kernel) (by decide +kernel), ⟨by decide +kernel, by decide +kernel⟩, by decide +kernel⟩
theorem cl_RL_76 : gCl RL 76 yX9_surest cX9_surest 8 (some .int) 3 := ⟨gm 923 (by decide +kernel) (by decide +kernel), gm 926 (by decide +kernel) (by decide +kernel), gm 10 (by decide +kernel) (by decide +kernel), ⟨by decide +kernel, by decide +kernel⟩, by decide +kernel⟩
theorem cl_RL_77 : gCl RL 77 yX8_bars cX8_bars 3 (some .int) 2 := ⟨gm 549 (by decide +kernel) (by decide +kernel), gm 552 (by decide +kernel) (by decide +kernel), gm 1 (by decide +kernel) (by decide +kernel), ⟨by decide +kernel, by decide +kernel⟩, by decide +kernel⟩
theorem cl_RL_80 : gCl RL 80 yX9_bars cX9_bars 5 (some .int) 2 := ⟨gm 942 (by decide +kernel) (by decide +kernel), gm 945 (by decide +kernel) (by decide +kernel), gm 10 (by decide +kernel) (by decide +kernel), ⟨by decide +kernel, by decide +kernel⟩, by decide +kernel⟩
theorem cl_RL_81 : gCl RL 81 yX8_paid cX8_paid 3 (some .int) 2 := ⟨gm 558 (by decide +kernel) (by decide +kernel), gm 561 (by decide +kernel) (by decide +kernel), gm 1 (by decide +kernel) (by decide +kernel), ⟨by decide +kernel, by decide +kernel⟩, by decide +kernel⟩
theorem cl_RL_84 : gCl RL 84 yX9_paid cX9_paid 9 (some .int) 2 := ⟨gm 950 (by decide +kernel) (by decide +kernel), gm 953 (by decide +kernel) (by decide +kernel), gm 10 (by decide +kernel) (by decide +kernel), ⟨by decide +kernel, by decide +kernel⟩, by decide +kernel⟩
theorem cl_RL_85 : gCl RL 85 yX8_coins cX8_coins 4 (some .int) 2 := ⟨gm 583 (by decide +kernel) (by decide +kernel), gm 586 (by decide +kernel) (by decide +kernel), gm 1 (by decide +kernel) (by decide +kernel), ⟨by decide +kernel, by decide +kernel⟩, by decide +kernel⟩
theorem cl_RL_88 : gCl RL 88 yX9_coins cX9_coins 12 (some .int) 2 := ⟨gm 957 (by decide +kernel) (by decide +kernel), gm 960 (by decide +kernel) (by decide +kernel), gm 10 (by decide +kernel) (by decide +kernel), ⟨by decide +kernel, by decide +kernel⟩, by decide +kernel⟩
theorem cl_RL_89 : gCl RL 89 yX8_free cX8_free 3 (some .int) 2 := ⟨gm 621 (by decide +kernel) (by decide +kernel), gm 624 (by decide +kernel) (by decide +kernel), gm 1 (by decide +kernel) (by decide +kernel), ⟨by decide +kernel, by decide +kernel⟩, by decide +kernel⟩
theorem cl_RL_92 : gCl RL 92 yX9_free cX9_free 5 (some .int) 2 := ⟨gm 966 (by decide +kernel) (by decide +kernel), gm 969 (by decide +kernel) (by decide +kernel), gm 10 (by decide +kernel) (by decide +kernel), ⟨by decide +kernel, by decide +kernel⟩, by decide +kernel⟩
theorem cl_RL_93 : gCl RL 93 yX8_who cX8_who 5 (some .int) 4 := ⟨gm 628 (by decide +kernel) (by decide +kernel), gm 631 (by decide +kernel) (by decide +kernel), gm 1 (by decide +kernel) (by decide +kernel), ⟨by decide +kernel, by decide +kernel⟩, by decide +kernel⟩
theorem cl_RL_97 : gCl RL 97 yX9_who cX9_who 16 (some .int) 4 := ⟨gm 970 (by decide +kernel) (by decide +kernel), gm 973 (by decide +kernel) (by decide +kernel), gm 10 (by decide +kernel) (by decide +kernel), ⟨by decide +kernel, by decide +kernel⟩, by decide +kernel⟩
theorem cl_RL_98 : gCl RL 98 yX8_odds cX8_odds 3 (some .int) 2 := ⟨gm 644 (by decide +kernel) (by decide +kernel), gm 647 (by decide +kernel) (by decide +kernel), gm 1 (by decide +kernel) (by decide +kernel), ⟨by decide +kernel, by decide +kernel⟩, by decide +kernel⟩
theorem cl_RL_101 : gCl RL 101 yX9_odds cX9_odds 10 (some .int) 2 := ⟨gm 974 (by decide +kernel) (by decide +kernel), gm 977 (by decide +kernel) (by decide +kernel), gm 10 (by decide +kernel) (by decide +kernel), ⟨by decide +kernel, by decide +kernel⟩, by decide +kernel⟩
theorem cl_RL_102 : gCl RL 102 yX8_mark cX8_mark 3 (some .int) 2 := ⟨gm 660 (by decide +kernel) (by decide +kernel), gm 663 (by decide +kernel) (by decide +kernel), gm 1 (by decide +kernel) (by decide +kernel), ⟨by decide +kernel, by decide +kernel⟩, by decide +kernel⟩
theorem cl_RL_105 : gCl RL 105 yX9_mark cX9_mark 5 (some .int) 2 := ⟨gm 978 (by decide +kernel) (by decide +kernel), gm 981 (by decide +kernel) (by decide +kernel), gm 10 (by decide +kernel) (by decide +kernel), ⟨by decide +kernel, by decide +kernel⟩, by decide +kernel⟩
theorem cl_RL_106 : gCl RL 106 yX8_keep cX8_keep 2 (some .int) 1 := ⟨gm 694 (by decide +kernel) (by decide +kernel), gm 697 (by decide +kernel) (by decide +kernel), gm 1 (by decide +kernel) (by decide +kernel), ⟨by decide +kernel, by decide +kernel⟩, by decide +kernel⟩
theorem cl_RL_109 : gCl RL 109 yX9_keep cX9_keep 3 (some .int) 1 := ⟨gm 988 (by decide +kernel) (by decide +kernel), gm 991 (by decide +kernel) (by decide +kernel), gm 10 (by decide +kernel) (by decide +kernel), ⟨by decide +kernel, by decide +kernel⟩, by decide +kernel⟩
theorem cl_RL_110 : gCl RL 110 yX8_back cX8_back 2 (some .int) 1 := ⟨gm 705 (by decide +kernel) (by decide +kernel), gm 708 (by decide +kernel) (by decide +kernel), gm 1 (by decide +kernel) (by decide +kernel), ⟨by decide +kernel, by decide +kernel⟩, by decide +kernel⟩
theorem cl_RL_113 : gCl RL 113 yX9_back cX9_back 3 (some .int) 1 := ⟨gm 992 (by decide +kernel) (by decide +kernel), gm 995 (by decide +kernel) (by decide +kernel), gm 10 (by decide +kernel) (by decide +kernel), ⟨by decide +kernel, by decide +kernel⟩, by decide +kernel⟩
theorem cl_RL_114 : gCl RL 114 yX8_count cX8_count 2 (some .int) 1 := ⟨gm 709 (by decide +kernel) (by decide +kernel), gm 712 (by decide +kernel) (by decide +kernel), gm 1 (by decide +kernel) (by decide +kernel), ⟨by decide +kernel, by decide +kernel⟩, by decide +kernel⟩
theorem cl_RL_117 : gCl RL 117 yX9_count cX9_count 2 (some .int) 1 := ⟨gm 996 (by decide +kernel) (by decide +kernel), gm 999 (by decide +kernel) (by decide +kernel), gm 10 (by decide +kernel) (by decide +kernel), ⟨by decide +kernel, by decide +kernel⟩, by decide +kernel⟩
theorem cl_RL_118 : gCl RL 118 yX8_trace cX8_trace 1 (some .long) 0 := ⟨gm 713 (by decide +kernel) (by decide +kernel), gm 716 (by decide +kernel) (by decide +kernel), gm 1 (by decide +kernel) (by decide +kernel), ⟨by decide +kernel, by decide +kernel⟩, by decide +kernel⟩
theorem cl_RL_122 : gCl RL 122 yX9_trace cX9_trace 1 (some .long) 0 := ⟨gm 1000 (by decide +kernel) (by decide +kernel), gm 1003 (by decide +kernel) (by decide +kernel), gm 10 (by decide +kernel) (by decide +kernel), ⟨by decide +kernel, by decide +kernel⟩, by decide +kernel⟩
theorem cl_RX9_47 : gCl RX9 47 yX9_reads cX9_reads 2 (some .boolean) 0 := ⟨gm 723 (by decide +kernel) (by decide +kernel), gm 726 (by decide +kernel) (by decide +kernel), gm 10 (by decide +kernel) (by decide +kernel), ⟨by decide +kernel, by decide +kernel⟩, by decide +kernel⟩
theorem cl_RX9_51 : gCl RX9 51 yX9_tells cX9_tells 2 none 0 := ⟨gm 764 (by decide +kernel) (by decide +kernel), gm 767 (by decide +kernel) (by decide +kernel), gm 10 (by decide +kernel) (by decide +kernel), ⟨by decide +kernel, by decide +kernel⟩, by decide +kernel⟩
theorem cl_RX9_54 : gCl RX9 54 yX9_in cX9_in 3 (some .boolean) 3 := ⟨gm 738 (by decide +kernel) (by decide +kernel), gm 740 (by decide +kernel) (by decide +kernel), gm 10 (by decide +kernel) (by decide +kernel), ⟨by decide +kernel, by decide +kernel⟩, by decide +kernel⟩
theorem cl_RX9_65 : gCl RX9 65 yX9_byteAt cX9_byteAt 2 (some .int) 1 := ⟨gm 731 (by decide +kernel) (by decide +kernel), gm 734 (by decide +kernel) (by decide +kernel), gm 10 (by decide +kernel) (by decide +kernel), ⟨by decide +kernel, by decide +kernel⟩, by decide +kernel⟩
theorem cl_RX9_72 : gCl RX9 72 yX9_isLetter cX9_isLetter 1 (some .boolean) 1 := ⟨gm 735 (by decide +kernel) (by decide +kernel), gm 737 (by decide +kernel) (by decide +kernel), gm 10 (by decide +kernel) (by decide +kernel), ⟨by decide +kernel, by decide +kernel⟩, by decide +kernel⟩
theorem cl_RX9_76 : gCl RX9 76 yX9_isDigit cX9_isDigit 1 (some .boolean) 1 := ⟨gm 741 (by decide +kernel) (by decide +kernel), gm 743 (by decide +kernel) (by decide +kernel), gm 10 (by decide +kernel) (by decide +kernel), ⟨by decide +kernel, by decide +kernel⟩, by decide +kernel⟩
theorem cl_RX9_85 : gCl RX9 85 yX9_token cX9_token 2 none 0 := ⟨gm 727 (by decide +kernel) (by decide +kernel), gm 730 (by decide +kernel) (by decide +kernel), gm 10 (by decide +kernel) (by decide +kernel), ⟨by decide +kernel, by decide +kernel⟩, by decide +kernel⟩
theorem cl_RX9_88 : gCl RX9 88 yX9_number cX9_number 4 (some .boolean) 3 := ⟨gm 752 (by decide +kernel) (by decide +kernel), gm 755 (by decide +kernel) (by decide +kernel), gm 10 (by decide +kernel) (by decide +kernel), ⟨by decide +kernel, by decide +kernel⟩, by decide +kernel⟩
theorem cl_RX9_91 : gCl RX9 91 yX9_readsStair cX9_readsStair 2 (some .boolean) 0 := ⟨gm 748 (by decide +kernel) (by decide +kernel), gm 751 (by decide +kernel) (by decide +kernel), gm 10 (by decide +kernel) (by decide +kernel), ⟨by decide +kernel, by decide +kernel⟩, by decide +kernel⟩
theorem cl_RX9_94 : gCl RX9 94 yX9_readsPerson cX9_readsPerson 2 (some .boolean) 0 := ⟨gm 756 (by decide +kernel) (by decide +kernel), gm 759 (by decide +kernel) (by decide +kernel), gm 10 (by decide +kernel) (by decide +kernel), ⟨by decide +kernel, by decide +kernel⟩, by decide +kernel⟩
theorem cl_RX9_97 : gCl RX9 97 yX9_once cX9_once 3 (some .boolean) 2 := ⟨gm 760 (by decide +kernel) (by decide +kernel), gm 763 (by decide +kernel) (by decide +kernel), gm 10 (by decide +kernel) (by decide +kernel), ⟨by decide +kernel, by decide +kernel⟩, by decide +kernel⟩
theorem cl_RX9_101 : gCl RX9 101 yX9_readsItem cX9_readsItem 2 (some .boolean) 0 := ⟨gm 744 (by decide +kernel) (by decide +kernel), gm 747 (by decide +kernel) (by decide +kernel), gm 10 (by decide +kernel) (by decide +kernel), ⟨by decide +kernel, by decide +kernel⟩, by decide +kernel⟩
theorem cl_RX9_104 : gCl RX9 104 yX9_isStair cX9_isStair 2 (some .boolean) 1 := ⟨gm 839 (by decide +kernel) (by decide +kernel), gm 842 (by decide +kernel) (by decide +kernel), gm 10 (by decide +kernel) (by decide +kernel), ⟨by decide +kernel, by decide +kernel⟩, by decide +kernel⟩
theorem cl_RX9_107 : gCl RX9 107 yX9_price cX9_price 3 (some .int) 1 := ⟨gm 843 (by decide +kernel) (by decide +kernel), gm 846 (by decide +kernel) (by decide +kernel), gm 10 (by decide +kernel) (by decide +kernel), ⟨by decide +kernel, by decide +kernel⟩, by decide +kernel⟩
theorem cl_RX9_110 : gCl RX9 110 yX9_isPerson cX9_isPerson 2 (some .boolean) 1 := ⟨gm 851 (by decide +kernel) (by decide +kernel), gm 854 (by decide +kernel) (by decide +kernel), gm 10 (by decide +kernel) (by decide +kernel), ⟨by decide +kernel, by decide +kernel⟩, by decide +kernel⟩
theorem cl_RX9_114 : gCl RX9 114 yX9_keeps cX9_keeps 3 none 0 := ⟨gm 863 (by decide +kernel) (by decide +kernel), gm 866 (by decide +kernel) (by decide +kernel), gm 10 (by decide +kernel) (by decide +kernel), ⟨by decide +kernel, by decide +kernel⟩, by decide +kernel⟩
theorem cl_RX9_117 : gCl RX9 117 yX9_counts cX9_counts 2 (some .int) 1 := ⟨gm 867 (by decide +kernel) (by decide +kernel), gm 870 (by decide +kernel) (by decide +kernel), gm 10 (by decide +kernel) (by decide +kernel), ⟨by decide +kernel, by decide +kernel⟩, by decide +kernel⟩
theorem cl_RX9_120 : gCl RX9 120 yX9_pays cX9_pays 4 (some .int) 3 := ⟨gm 871 (by decide +kernel) (by decide +kernel), gm 874 (by decide +kernel) (by decide +kernel), gm 10 (by decide +kernel) (by decide +kernel), ⟨by decide +kernel, by decide +kernel⟩, by decide +kernel⟩
theorem cl_RX9_124 : gCl RX9 124 yX9_more cX9_more 2 (some .int) 2 := ⟨gm 896 (by decide +kernel) (by decide +kernel), gm 898 (by decide +kernel) (by decide +kernel), gm 10 (by decide +kernel) (by decide +kernel), ⟨by decide +kernel, by decide +kernel⟩, by decide +kernel⟩
theorem cl_RX9_128 : gCl RX9 128 yX9_all cX9_all 3 (some .int) 0 := ⟨gm 899 (by decide +kernel) (by decide +kernel), gm 902 (by decide +kernel) (by decide +kernel), gm 10 (by decide +kernel) (by decide +kernel), ⟨by decide +kernel, by decide +kernel⟩, by decide +kernel⟩
theorem cl_RX9_132 : gCl RX9 132 yX9_finds cX9_finds 6 (some .boolean) 1 := ⟨gm 919 (by decide +kernel) (by decide +kernel), gm 922 (by decide +kernel) (by decide +kernel), gm 10 (by decide +kernel) (by decide +kernel), ⟨by decide +kernel, by decide +kernel⟩, by decide +kernel⟩
theorem cl_RX9_135 : gCl RX9 135 yX9_dear cX9_dear 3 (some .int) 0 := ⟨gm 911 (by decide +kernel) (by decide +kernel), gm 914 (by decide +kernel) (by decide +kernel), gm 10 (by decide +kernel) (by decide +kernel), ⟨by decide +kernel, by decide +kernel⟩, by decide +kernel⟩
theorem cl_RX9_138 : gCl RX9 138 yX9_struck cX9_struck 6 (some .int) 0 := ⟨gm 915 (by decide +kernel) (by decide +kernel), gm 918 (by decide +kernel) (by decide +kernel), gm 10 (by decide +kernel) (by decide +kernel), ⟨by decide +kernel, by decide +kernel⟩, by decide +kernel⟩
theorem cl_RX9_141 : gCl RX9 141 yX9_weight cX9_weight 2 (some .int) 1 := ⟨gm 934 (by decide +kernel) (by decide +kernel), gm 937 (by decide +kernel) (by decide +kernel), gm 10 (by decide +kernel) (by decide +kernel), ⟨by decide +kernel, by decide +kernel⟩, by decide +kernel⟩
theorem cl_RX9_144 : gCl RX9 144 yX9_isFloor cX9_isFloor 1 (some .boolean) 1 := ⟨gm 927 (by decide +kernel) (by decide +kernel), gm 929 (by decide +kernel) (by decide +kernel), gm 10 (by decide +kernel) (by decide +kernel), ⟨by decide +kernel, by decide +kernel⟩, by decide +kernel⟩
theorem cl_RX9_147 : gCl RX9 147 yX9_lays cX9_lays 8 none 1 := ⟨gm 930 (by decide +kernel) (by decide +kernel), gm 933 (by decide +kernel) (by decide +kernel), gm 10 (by decide +kernel) (by decide +kernel), ⟨by decide +kernel, by decide +kernel⟩, by decide +kernel⟩
theorem cl_RX9_151 : gCl RX9 151 yX9_other cX9_other 3 (some .int) 2 := ⟨gm 938 (by decide +kernel) (by decide +kernel), gm 941 (by decide +kernel) (by decide +kernel), gm 10 (by decide +kernel) (by decide +kernel), ⟨by decide +kernel, by decide +kernel⟩, by decide +kernel⟩
theorem cl_RX9_154 : gCl RX9 154 yX9_isWay cX9_isWay 10 (some .boolean) 3 := ⟨gm 946 (by decide +kernel) (by decide +kernel), gm 949 (by decide +kernel) (by decide +kernel), gm 10 (by decide +kernel) (by decide +kernel), ⟨by decide +kernel, by decide +kernel⟩, by decide +kernel⟩
theorem cl_RX9_157 : gCl RX9 157 yX9_better cX9_better 2 (some .int) 2 := ⟨gm 954 (by decide +kernel) (by decide +kernel), gm 956 (by decide +kernel) (by decide +kernel), gm 10 (by decide +kernel) (by decide +kernel), ⟨by decide +kernel, by decide +kernel⟩, by decide +kernel⟩
theorem cl_RX9_161 : gCl RX9 161 yX9_dueBy cX9_dueBy 8 (some .int) 2 := ⟨gm 962 (by decide +kernel) (by decide +kernel), gm 965 (by decide +kernel) (by decide +kernel), gm 10 (by decide +kernel) (by decide +kernel), ⟨by decide +kernel, by decide +kernel⟩, by decide +kernel⟩
theorem sv_J7_fill_53178 : Cond.static yJ7_fill_53178 ∈ gTbl := gm 385 (by decide +kernel) (by decide +kernel)
theorem sv_J9_max_7cf53 : Cond.static yJ9_max_7cf53 ∈ gTbl := gm 400 (by decide +kernel) (by decide +kernel)
theorem sv_J9_min_7cf53 : Cond.static yJ9_min_7cf53 ∈ gTbl := gm 343 (by decide +kernel) (by decide +kernel)
theorem sv_X0_begin : gSv yX0_begin := ⟨gm 374 (by decide +kernel) (by decide +kernel), gm 375 (by decide +kernel) (by decide +kernel)⟩
theorem ckk_X0_begin : gCk yX0_begin 0 := ⟨_, rfl, rfl⟩
theorem sv_X0_copyFrom : gSv yX0_copyFrom := ⟨gm 702 (by decide +kernel) (by decide +kernel), gm 703 (by decide +kernel) (by decide +kernel)⟩
theorem ckk_X0_copyFrom : gCk yX0_copyFrom 0 := ⟨_, rfl, rfl⟩
theorem sv_X0_init : Cond.instanceMethod yX0_init ∈ gTbl := gm 52 (by decide +kernel) (by decide +kernel)
theorem sv_X0_remember : gSv yX0_remember := ⟨gm 427 (by decide +kernel) (by decide +kernel), gm 428 (by decide +kernel) (by decide +kernel)⟩
theorem ckk_X0_remember : gCk yX0_remember 0 := ⟨_, rfl, rfl⟩
theorem sv_X0_takeBack : gSv yX0_takeBack := ⟨gm 483 (by decide +kernel) (by decide +kernel), gm 484 (by decide +kernel) (by decide +kernel)⟩
theorem ckk_X0_takeBack : gCk yX0_takeBack 0 := ⟨_, rfl, rfl⟩
theorem sv_X1_addHurt : gSv yX1_addHurt := ⟨gm 436 (by decide +kernel) (by decide +kernel), gm 437 (by decide +kernel) (by decide +kernel)⟩
theorem ckk_X1_addHurt : gCk yX1_addHurt 1 := ⟨_, rfl, rfl⟩
theorem sv_X1_begin : gSv yX1_begin := ⟨gm 378 (by decide +kernel) (by decide +kernel), gm 379 (by decide +kernel) (by decide +kernel)⟩
theorem ckk_X1_begin : gCk yX1_begin 1 := ⟨_, rfl, rfl⟩
theorem sv_X1_copyFrom : gSv yX1_copyFrom := ⟨gm 431 (by decide +kernel) (by decide +kernel), gm 432 (by decide +kernel) (by decide +kernel)⟩
theorem ckk_X1_copyFrom : gCk yX1_copyFrom 1 := ⟨_, rfl, rfl⟩
theorem sv_X1_dueOfAll : gSv yX1_dueOfAll := ⟨gm 475 (by decide +kernel) (by decide +kernel), gm 476 (by decide +kernel) (by decide +kernel)⟩
theorem ckk_X1_dueOfAll : gCk yX1_dueOfAll 1 := ⟨_, rfl, rfl⟩
theorem sv_X1_endYear : gSv yX1_endYear := ⟨gm 471 (by decide +kernel) (by decide +kernel), gm 472 (by decide +kernel) (by decide +kernel)⟩
theorem ckk_X1_endYear : gCk yX1_endYear 1 := ⟨_, rfl, rfl⟩
theorem sv_X1_init : Cond.instanceMethod yX1_init ∈ gTbl := gm 58 (by decide +kernel) (by decide +kernel)
theorem sv_X1_lessen : gSv yX1_lessen := ⟨gm 446 (by decide +kernel) (by decide +kernel), gm 447 (by decide +kernel) (by decide +kernel)⟩
theorem ckk_X1_lessen : gCk yX1_lessen 1 := ⟨_, rfl, rfl⟩
theorem sv_X2_cheapestFor : gSv yX2_cheapestFor := ⟨gm 580 (by decide +kernel) (by decide +kernel), gmp 18 (by decide +kernel) (by decide +kernel)⟩
theorem ckk_X2_cheapestFor : gCk yX2_cheapestFor 2 := ⟨_, rfl, rfl⟩
theorem sv_X2_coinsFor : gSv yX2_coinsFor := ⟨gm 614 (by decide +kernel) (by decide +kernel), gm 615 (by decide +kernel) (by decide +kernel)⟩
theorem ckk_X2_coinsFor : gCk yX2_coinsFor 2 := ⟨_, rfl, rfl⟩
theorem sv_X2_dueWithCoins : Cond.static yX2_dueWithCoins ∈ gTbl := gm 595 (by decide +kernel) (by decide +kernel)
theorem sv_X2_fewerCoins : gSv yX2_fewerCoins := ⟨gm 619 (by decide +kernel) (by decide +kernel), gmp 21 (by decide +kernel) (by decide +kernel)⟩
theorem ckk_X2_fewerCoins : gCk yX2_fewerCoins 2 := ⟨_, rfl, rfl⟩
theorem sv_X2_fewestCoins : gSv yX2_fewestCoins := ⟨gm 610 (by decide +kernel) (by decide +kernel), gm 611 (by decide +kernel) (by decide +kernel)⟩
theorem ckk_X2_fewestCoins : gCk yX2_fewestCoins 2 := ⟨_, rfl, rfl⟩
theorem sv_X2_gatherFalls : gSv yX2_gatherFalls := ⟨gm 568 (by decide +kernel) (by decide +kernel), gmp 16 (by decide +kernel) (by decide +kernel)⟩
theorem ckk_X2_gatherFalls : gCk yX2_gatherFalls 2 := ⟨_, rfl, rfl⟩
theorem sv_X2_init : Cond.instanceMethod yX2_init ∈ gTbl := gm 116 (by decide +kernel) (by decide +kernel)
theorem sv_X2_leastDue : gSv yX2_leastDue := ⟨gm 606 (by decide +kernel) (by decide +kernel), gm 607 (by decide +kernel) (by decide +kernel)⟩
theorem ckk_X2_leastDue : gCk yX2_leastDue 2 := ⟨_, rfl, rfl⟩
theorem sv_X2_leastWith : gSv yX2_leastWith := ⟨gm 599 (by decide +kernel) (by decide +kernel), gmp 19 (by decide +kernel) (by decide +kernel)⟩
theorem ckk_X2_leastWith : gCk yX2_leastWith 2 := ⟨_, rfl, rfl⟩
theorem sv_X2_offerFall : gSv yX2_offerFall := ⟨gm 575 (by decide +kernel) (by decide +kernel), gmp 17 (by decide +kernel) (by decide +kernel)⟩
theorem ckk_X2_offerFall : gCk yX2_offerFall 2 := ⟨_, rfl, rfl⟩
theorem sv_X2_payByFalls : gSv yX2_payByFalls := ⟨gm 563 (by decide +kernel) (by decide +kernel), gm 564 (by decide +kernel) (by decide +kernel)⟩
theorem ckk_X2_payByFalls : gCk yX2_payByFalls 2 := ⟨_, rfl, rfl⟩
theorem sv_X2_spend : gSv yX2_spend := ⟨gm 591 (by decide +kernel) (by decide +kernel), gm 592 (by decide +kernel) (by decide +kernel)⟩
theorem ckk_X2_spend : gCk yX2_spend 2 := ⟨_, rfl, rfl⟩
theorem sv_X2_spentOn : gSv yX2_spentOn := ⟨gm 603 (by decide +kernel) (by decide +kernel), gmp 20 (by decide +kernel) (by decide +kernel)⟩
theorem ckk_X2_spentOn : gCk yX2_spentOn 2 := ⟨_, rfl, rfl⟩
theorem sv_X2_yearsTillFree : Cond.static yX2_yearsTillFree ∈ gTbl := gm 626 (by decide +kernel) (by decide +kernel)
theorem sv_X3_forget : gSv yX3_forget := ⟨gm 321 (by decide +kernel) (by decide +kernel), gm 322 (by decide +kernel) (by decide +kernel)⟩
theorem ckk_X3_forget : gCk yX3_forget 3 := ⟨_, rfl, rfl⟩
theorem sv_X3_halvesOf : gSv yX3_halvesOf := ⟨gm 442 (by decide +kernel) (by decide +kernel), gm 443 (by decide +kernel) (by decide +kernel)⟩
theorem ckk_X3_halvesOf : gCk yX3_halvesOf 3 := ⟨_, rfl, rfl⟩
theorem sv_X3_hasPerson : gSv yX3_hasPerson := ⟨gm 407 (by decide +kernel) (by decide +kernel), gm 408 (by decide +kernel) (by decide +kernel)⟩
theorem ckk_X3_hasPerson : gCk yX3_hasPerson 3 := ⟨_, rfl, rfl⟩
theorem sv_X3_hasStair : gSv yX3_hasStair := ⟨gm 392 (by decide +kernel) (by decide +kernel), gm 393 (by decide +kernel) (by decide +kernel)⟩
theorem ckk_X3_hasStair : gCk yX3_hasStair 3 := ⟨_, rfl, rfl⟩
theorem sv_X3_hasTwoStairs : gSv yX3_hasTwoStairs := ⟨gm 415 (by decide +kernel) (by decide +kernel), gm 416 (by decide +kernel) (by decide +kernel)⟩
theorem ckk_X3_hasTwoStairs : gCk yX3_hasTwoStairs 3 := ⟨_, rfl, rfl⟩
theorem sv_X3_init : Cond.instanceMethod yX3_init ∈ gTbl := gm 181 (by decide +kernel) (by decide +kernel)
theorem sv_X4_empty : gSv yX4_empty := ⟨gm 309 (by decide +kernel) (by decide +kernel), gm 310 (by decide +kernel) (by decide +kernel)⟩
theorem ckk_X4_empty : gCk yX4_empty 4 := ⟨_, rfl, rfl⟩
theorem sv_X4_init : Cond.instanceMethod yX4_init ∈ gTbl := gm 25 (by decide +kernel) (by decide +kernel)
theorem sv_X4_isDigit : Cond.static yX4_isDigit ∈ gTbl := gm 336 (by decide +kernel) (by decide +kernel)
theorem sv_X4_isLetter : Cond.static yX4_isLetter ∈ gTbl := gm 329 (by decide +kernel) (by decide +kernel)
theorem sv_X4_nextToken : gSv yX4_nextToken := ⟨gm 326 (by decide +kernel) (by decide +kernel), gmp 0 (by decide +kernel) (by decide +kernel)⟩
theorem ckk_X4_nextToken : gCk yX4_nextToken 4 := ⟨_, rfl, rfl⟩
theorem sv_X4_readDolls : gSv yX4_readDolls := ⟨gm 367 (by decide +kernel) (by decide +kernel), gmp 8 (by decide +kernel) (by decide +kernel)⟩
theorem ckk_X4_readDolls : gCk yX4_readDolls 4 := ⟨_, rfl, rfl⟩
theorem sv_X4_readInto : gSv yX4_readInto := ⟨gm 317 (by decide +kernel) (by decide +kernel), gm 318 (by decide +kernel) (by decide +kernel)⟩
theorem ckk_X4_readInto : gCk yX4_readInto 4 := ⟨_, rfl, rfl⟩
theorem sv_X4_readItem : gSv yX4_readItem := ⟨gm 347 (by decide +kernel) (by decide +kernel), gmp 3 (by decide +kernel) (by decide +kernel)⟩
theorem ckk_X4_readItem : gCk yX4_readItem 4 := ⟨_, rfl, rfl⟩
theorem sv_X4_readNumber : gSv yX4_readNumber := ⟨gm 355 (by decide +kernel) (by decide +kernel), gmp 5 (by decide +kernel) (by decide +kernel)⟩
theorem ckk_X4_readNumber : gCk yX4_readNumber 4 := ⟨_, rfl, rfl⟩
theorem sv_X4_readPair : gSv yX4_readPair := ⟨gm 371 (by decide +kernel) (by decide +kernel), gmp 9 (by decide +kernel) (by decide +kernel)⟩
theorem ckk_X4_readPair : gCk yX4_readPair 4 := ⟨_, rfl, rfl⟩
theorem sv_X4_readPerson : gSv yX4_readPerson := ⟨gm 363 (by decide +kernel) (by decide +kernel), gmp 7 (by decide +kernel) (by decide +kernel)⟩
theorem ckk_X4_readPerson : gCk yX4_readPerson 4 := ⟨_, rfl, rfl⟩
theorem sv_X4_readStair : gSv yX4_readStair := ⟨gm 351 (by decide +kernel) (by decide +kernel), gmp 4 (by decide +kernel) (by decide +kernel)⟩
theorem ckk_X4_readStair : gCk yX4_readStair 4 := ⟨_, rfl, rfl⟩
theorem sv_X4_readStop : gSv yX4_readStop := ⟨gm 359 (by decide +kernel) (by decide +kernel), gmp 6 (by decide +kernel) (by decide +kernel)⟩
theorem ckk_X4_readStop : gCk yX4_readStop 4 := ⟨_, rfl, rfl⟩
theorem sv_X4_take : gSv yX4_take := ⟨gm 301 (by decide +kernel) (by decide +kernel), gm 302 (by decide +kernel) (by decide +kernel)⟩
theorem ckk_X4_take : gCk yX4_take 4 := ⟨_, rfl, rfl⟩
theorem sv_X4_takeNumber : gSv yX4_takeNumber := ⟨gm 340 (by decide +kernel) (by decide +kernel), gmp 2 (by decide +kernel) (by decide +kernel)⟩
theorem ckk_X4_takeNumber : gCk yX4_takeNumber 4 := ⟨_, rfl, rfl⟩
theorem sv_X4_takeWord : gSv yX4_takeWord := ⟨gm 333 (by decide +kernel) (by decide +kernel), gmp 1 (by decide +kernel) (by decide +kernel)⟩
theorem ckk_X4_takeWord : gCk yX4_takeWord 4 := ⟨_, rfl, rfl⟩
theorem sv_X5_goOn : Cond.static yX5_goOn ∈ gTbl := gm 504 (by decide +kernel) (by decide +kernel)
theorem sv_X5_init : Cond.instanceMethod yX5_init ∈ gTbl := gm 137 (by decide +kernel) (by decide +kernel)
theorem sv_X5_linkAt : gSv yX5_linkAt := ⟨gm 513 (by decide +kernel) (by decide +kernel), gmp 14 (by decide +kernel) (by decide +kernel)⟩
theorem ckk_X5_linkAt : gCk yX5_linkAt 5 := ⟨_, rfl, rfl⟩
theorem sv_X5_strikeAll : gSv yX5_strikeAll := ⟨gm 499 (by decide +kernel) (by decide +kernel), gm 500 (by decide +kernel) (by decide +kernel)⟩
theorem ckk_X5_strikeAll : gCk yX5_strikeAll 5 := ⟨_, rfl, rfl⟩
theorem sv_X5_strikeRow : gSv yX5_strikeRow := ⟨gm 508 (by decide +kernel) (by decide +kernel), gmp 13 (by decide +kernel) (by decide +kernel)⟩
theorem ckk_X5_strikeRow : gCk yX5_strikeRow 5 := ⟨_, rfl, rfl⟩
theorem sv_X6_accuse : Cond.static yX6_accuse ∈ gTbl := gm 637 (by decide +kernel) (by decide +kernel)
theorem sv_X6_commonDivisor : Cond.static yX6_commonDivisor ∈ gTbl := gm 658 (by decide +kernel) (by decide +kernel)
theorem sv_X6_init : Cond.instanceMethod yX6_init ∈ gTbl := gm 159 (by decide +kernel) (by decide +kernel)
theorem sv_X6_note : gSv yX6_note := ⟨gm 641 (by decide +kernel) (by decide +kernel), gmp 22 (by decide +kernel) (by decide +kernel)⟩
theorem ckk_X6_note : gCk yX6_note 6 := ⟨_, rfl, rfl⟩
theorem sv_X6_oddsOf : gSv yX6_oddsOf := ⟨gm 649 (by decide +kernel) (by decide +kernel), gm 650 (by decide +kernel) (by decide +kernel)⟩
theorem ckk_X6_oddsOf : gCk yX6_oddsOf 6 := ⟨_, rfl, rfl⟩
theorem sv_X6_search : gSv yX6_search := ⟨gm 633 (by decide +kernel) (by decide +kernel), gm 634 (by decide +kernel) (by decide +kernel)⟩
theorem ckk_X6_search : gCk yX6_search 6 := ⟨_, rfl, rfl⟩
theorem sv_X6_spreadChances : gSv yX6_spreadChances := ⟨gm 654 (by decide +kernel) (by decide +kernel), gmp 23 (by decide +kernel) (by decide +kernel)⟩
theorem ckk_X6_spreadChances : gCk yX6_spreadChances 6 := ⟨_, rfl, rfl⟩
theorem sv_X7_barsBetween : gSv yX7_barsBetween := ⟨gm 554 (by decide +kernel) (by decide +kernel), gm 555 (by decide +kernel) (by decide +kernel)⟩
theorem ckk_X7_barsBetween : gCk yX7_barsBetween 7 := ⟨_, rfl, rfl⟩
theorem sv_X7_dueFrom : gSv yX7_dueFrom := ⟨gm 538 (by decide +kernel) (by decide +kernel), gm 539 (by decide +kernel) (by decide +kernel)⟩
theorem ckk_X7_dueFrom : gCk yX7_dueFrom 7 := ⟨_, rfl, rfl⟩
theorem sv_X7_firstFrom : gSv yX7_firstFrom := ⟨gm 546 (by decide +kernel) (by decide +kernel), gm 547 (by decide +kernel) (by decide +kernel)⟩
theorem ckk_X7_firstFrom : gCk yX7_firstFrom 7 := ⟨_, rfl, rfl⟩
theorem sv_X7_goBy : gSv yX7_goBy := ⟨gm 535 (by decide +kernel) (by decide +kernel), gmp 15 (by decide +kernel) (by decide +kernel)⟩
theorem ckk_X7_goBy : gCk yX7_goBy 7 := ⟨_, rfl, rfl⟩
theorem sv_X7_init : Cond.instanceMethod yX7_init ∈ gTbl := gm 105 (by decide +kernel) (by decide +kernel)
theorem sv_X7_measure : gSv yX7_measure := ⟨gm 525 (by decide +kernel) (by decide +kernel), gm 526 (by decide +kernel) (by decide +kernel)⟩
theorem ckk_X7_measure : gCk yX7_measure 7 := ⟨_, rfl, rfl⟩
theorem sv_X7_stepsFrom : gSv yX7_stepsFrom := ⟨gm 542 (by decide +kernel) (by decide +kernel), gm 543 (by decide +kernel) (by decide +kernel)⟩
theorem ckk_X7_stepsFrom : gCk yX7_stepsFrom 7 := ⟨_, rfl, rfl⟩
theorem sv_X7_weight : Cond.static yX7_weight ∈ gTbl := gm 531 (by decide +kernel) (by decide +kernel)
theorem sv_X8_asChurch : gSv yX8_asChurch := ⟨gm 681 (by decide +kernel) (by decide +kernel), gmp 27 (by decide +kernel) (by decide +kernel)⟩
theorem ckk_X8_asChurch : gCk yX8_asChurch 8 := ⟨_, rfl, rfl⟩
theorem sv_X8_asLadder : gSv yX8_asLadder := ⟨gm 676 (by decide +kernel) (by decide +kernel), gmp 26 (by decide +kernel) (by decide +kernel)⟩
theorem ckk_X8_asLadder : gCk yX8_asLadder 8 := ⟨_, rfl, rfl⟩
theorem sv_X8_asLift : gSv yX8_asLift := ⟨gm 686 (by decide +kernel) (by decide +kernel), gmp 28 (by decide +kernel) (by decide +kernel)⟩
theorem ckk_X8_asLift : gCk yX8_asLift 8 := ⟨_, rfl, rfl⟩
theorem sv_X8_asMarble : gSv yX8_asMarble := ⟨gm 671 (by decide +kernel) (by decide +kernel), gmp 25 (by decide +kernel) (by decide +kernel)⟩
theorem ckk_X8_asMarble : gCk yX8_asMarble 8 := ⟨_, rfl, rfl⟩
theorem sv_X8_asStair : gSv yX8_asStair := ⟨gm 667 (by decide +kernel) (by decide +kernel), gmp 24 (by decide +kernel) (by decide +kernel)⟩
theorem ckk_X8_asStair : gCk yX8_asStair 8 := ⟨_, rfl, rfl⟩
theorem sv_X8_asTower : gSv yX8_asTower := ⟨gm 691 (by decide +kernel) (by decide +kernel), gmp 29 (by decide +kernel) (by decide +kernel)⟩
theorem ckk_X8_asTower : gCk yX8_asTower 8 := ⟨_, rfl, rfl⟩
theorem sv_X8_back : gSv yX8_back := ⟨gm 706 (by decide +kernel) (by decide +kernel), gm 707 (by decide +kernel) (by decide +kernel)⟩
theorem ckk_X8_back : gCk yX8_back 8 := ⟨_, rfl, rfl⟩
theorem sv_X8_bars : gSv yX8_bars := ⟨gm 550 (by decide +kernel) (by decide +kernel), gm 551 (by decide +kernel) (by decide +kernel)⟩
theorem ckk_X8_bars : gCk yX8_bars 8 := ⟨_, rfl, rfl⟩
theorem sv_X8_bond : gSv yX8_bond := ⟨gm 411 (by decide +kernel) (by decide +kernel), gm 412 (by decide +kernel) (by decide +kernel)⟩
theorem ckk_X8_bond : gCk yX8_bond 8 := ⟨_, rfl, rfl⟩
theorem sv_X8_bondAt : Cond.static yX8_bondAt ∈ gTbl := gm 420 (by decide +kernel) (by decide +kernel)
theorem sv_X8_clear : gSv yX8_clear := ⟨gm 305 (by decide +kernel) (by decide +kernel), gm 306 (by decide +kernel) (by decide +kernel)⟩
theorem ckk_X8_clear : gCk yX8_clear 8 := ⟨_, rfl, rfl⟩
theorem sv_X8_coins : gSv yX8_coins := ⟨gm 584 (by decide +kernel) (by decide +kernel), gm 585 (by decide +kernel) (by decide +kernel)⟩
theorem ckk_X8_coins : gCk yX8_coins 8 := ⟨_, rfl, rfl⟩
theorem sv_X8_count : gSv yX8_count := ⟨gm 710 (by decide +kernel) (by decide +kernel), gm 711 (by decide +kernel) (by decide +kernel)⟩
theorem ckk_X8_count : gCk yX8_count 8 := ⟨_, rfl, rfl⟩
theorem sv_X8_dearest : gSv yX8_dearest := ⟨gm 496 (by decide +kernel) (by decide +kernel), gmp 12 (by decide +kernel) (by decide +kernel)⟩
theorem ckk_X8_dearest : gCk yX8_dearest 8 := ⟨_, rfl, rfl⟩
theorem sv_X8_ends : gSv yX8_ends := ⟨gm 467 (by decide +kernel) (by decide +kernel), gm 468 (by decide +kernel) (by decide +kernel)⟩
theorem ckk_X8_ends : gCk yX8_ends 8 := ⟨_, rfl, rfl⟩
theorem sv_X8_falls : gSv yX8_falls := ⟨gm 423 (by decide +kernel) (by decide +kernel), gm 424 (by decide +kernel) (by decide +kernel)⟩
theorem ckk_X8_falls : gCk yX8_falls 8 := ⟨_, rfl, rfl⟩
theorem sv_X8_free : gSv yX8_free := ⟨gm 622 (by decide +kernel) (by decide +kernel), gm 623 (by decide +kernel) (by decide +kernel)⟩
theorem ckk_X8_free : gCk yX8_free 8 := ⟨_, rfl, rfl⟩
theorem sv_X8_house : gSv yX8_house := ⟨gm 313 (by decide +kernel) (by decide +kernel), gm 314 (by decide +kernel) (by decide +kernel)⟩
theorem ckk_X8_house : gCk yX8_house 8 := ⟨_, rfl, rfl⟩
theorem sv_X8_init : Cond.instanceMethod yX8_init ∈ gTbl := gm 17 (by decide +kernel) (by decide +kernel)
theorem sv_X8_isAsked : Cond.static yX8_isAsked ∈ gTbl := gm 588 (by decide +kernel) (by decide +kernel)
theorem sv_X8_isFloor : Cond.static yX8_isFloor ∈ gTbl := gm 522 (by decide +kernel) (by decide +kernel)
theorem sv_X8_isImage : Cond.static yX8_isImage ∈ gTbl := gm 699 (by decide +kernel) (by decide +kernel)
theorem sv_X8_keep : gSv yX8_keep := ⟨gm 695 (by decide +kernel) (by decide +kernel), gm 696 (by decide +kernel) (by decide +kernel)⟩
theorem ckk_X8_keep : gCk yX8_keep 8 := ⟨_, rfl, rfl⟩
theorem sv_X8_mark : gSv yX8_mark := ⟨gm 661 (by decide +kernel) (by decide +kernel), gm 662 (by decide +kernel) (by decide +kernel)⟩
theorem ckk_X8_mark : gCk yX8_mark 8 := ⟨_, rfl, rfl⟩
theorem sv_X8_now : gSv yX8_now := ⟨gm 487 (by decide +kernel) (by decide +kernel), gm 488 (by decide +kernel) (by decide +kernel)⟩
theorem ckk_X8_now : gCk yX8_now 8 := ⟨_, rfl, rfl⟩
theorem sv_X8_odds : gSv yX8_odds := ⟨gm 645 (by decide +kernel) (by decide +kernel), gm 646 (by decide +kernel) (by decide +kernel)⟩
theorem ckk_X8_odds : gCk yX8_odds 8 := ⟨_, rfl, rfl⟩
theorem sv_X8_paid : gSv yX8_paid := ⟨gm 559 (by decide +kernel) (by decide +kernel), gm 560 (by decide +kernel) (by decide +kernel)⟩
theorem ckk_X8_paid : gCk yX8_paid 8 := ⟨_, rfl, rfl⟩
theorem sv_X8_person : gSv yX8_person := ⟨gm 403 (by decide +kernel) (by decide +kernel), gm 404 (by decide +kernel) (by decide +kernel)⟩
theorem ckk_X8_person : gCk yX8_person 8 := ⟨_, rfl, rfl⟩
theorem sv_X8_priceOf : gSv yX8_priceOf := ⟨gm 397 (by decide +kernel) (by decide +kernel), gmp 10 (by decide +kernel) (by decide +kernel)⟩
theorem ckk_X8_priceOf : gCk yX8_priceOf 8 := ⟨_, rfl, rfl⟩
theorem sv_X8_redeems : gSv yX8_redeems := ⟨gm 463 (by decide +kernel) (by decide +kernel), gm 464 (by decide +kernel) (by decide +kernel)⟩
theorem ckk_X8_redeems : gCk yX8_redeems 8 := ⟨_, rfl, rfl⟩
theorem sv_X8_sells : gSv yX8_sells := ⟨gm 459 (by decide +kernel) (by decide +kernel), gm 460 (by decide +kernel) (by decide +kernel)⟩
theorem ckk_X8_sells : gCk yX8_sells 8 := ⟨_, rfl, rfl⟩
theorem sv_X8_stair : gSv yX8_stair := ⟨gm 388 (by decide +kernel) (by decide +kernel), gm 389 (by decide +kernel) (by decide +kernel)⟩
theorem ckk_X8_stair : gCk yX8_stair 8 := ⟨_, rfl, rfl⟩
theorem sv_X8_stairsPaidOff : gSv yX8_stairsPaidOff := ⟨gm 492 (by decide +kernel) (by decide +kernel), gmp 11 (by decide +kernel) (by decide +kernel)⟩
theorem ckk_X8_stairsPaidOff : gCk yX8_stairsPaidOff 8 := ⟨_, rfl, rfl⟩
theorem sv_X8_surest : gSv yX8_surest := ⟨gm 518 (by decide +kernel) (by decide +kernel), gm 519 (by decide +kernel) (by decide +kernel)⟩
theorem ckk_X8_surest : gCk yX8_surest 8 := ⟨_, rfl, rfl⟩
theorem sv_X8_throwsDoll : gSv yX8_throwsDoll := ⟨gm 455 (by decide +kernel) (by decide +kernel), gm 456 (by decide +kernel) (by decide +kernel)⟩
theorem ckk_X8_throwsDoll : gCk yX8_throwsDoll 8 := ⟨_, rfl, rfl⟩
theorem sv_X8_together : gSv yX8_together := ⟨gm 451 (by decide +kernel) (by decide +kernel), gm 452 (by decide +kernel) (by decide +kernel)⟩
theorem ckk_X8_together : gCk yX8_together 8 := ⟨_, rfl, rfl⟩
theorem sv_X8_trace : gSv yX8_trace := ⟨gm 714 (by decide +kernel) (by decide +kernel), gm 715 (by decide +kernel) (by decide +kernel)⟩
theorem ckk_X8_trace : gCk yX8_trace 8 := ⟨_, rfl, rfl⟩
theorem sv_X8_type : gSv yX8_type := ⟨gm 297 (by decide +kernel) (by decide +kernel), gm 298 (by decide +kernel) (by decide +kernel)⟩
theorem ckk_X8_type : gCk yX8_type 8 := ⟨_, rfl, rfl⟩
theorem sv_X8_undo : gSv yX8_undo := ⟨gm 479 (by decide +kernel) (by decide +kernel), gm 480 (by decide +kernel) (by decide +kernel)⟩
theorem ckk_X8_undo : gCk yX8_undo 8 := ⟨_, rfl, rfl⟩
theorem sv_X8_who : gSv yX8_who := ⟨gm 629 (by decide +kernel) (by decide +kernel), gm 630 (by decide +kernel) (by decide +kernel)⟩
theorem ckk_X8_who : gCk yX8_who 8 := ⟨_, rfl, rfl⟩
theorem sv_X9_all : gSv yX9_all := ⟨gm 901 (by decide +kernel) (by decide +kernel), gmp 45 (by decide +kernel) (by decide +kernel)⟩
theorem ckk_X9_all : gCk yX9_all 9 := ⟨_, rfl, rfl⟩
theorem sv_X9_back : gSv yX9_back := ⟨gm 993 (by decide +kernel) (by decide +kernel), gm 994 (by decide +kernel) (by decide +kernel)⟩
theorem ckk_X9_back : gCk yX9_back 9 := ⟨_, rfl, rfl⟩
theorem sv_X9_bars : gSv yX9_bars := ⟨gm 943 (by decide +kernel) (by decide +kernel), gm 944 (by decide +kernel) (by decide +kernel)⟩
theorem ckk_X9_bars : gCk yX9_bars 9 := ⟨_, rfl, rfl⟩
theorem sv_X9_better : Cond.static yX9_better ∈ gTbl := gm 955 (by decide +kernel) (by decide +kernel)
theorem sv_X9_bond : gSv yX9_bond := ⟨gm 856 (by decide +kernel) (by decide +kernel), gm 857 (by decide +kernel) (by decide +kernel)⟩
theorem ckk_X9_bond : gCk yX9_bond 9 := ⟨_, rfl, rfl⟩
theorem sv_X9_byteAt : gSv yX9_byteAt := ⟨gm 733 (by decide +kernel) (by decide +kernel), gmp 32 (by decide +kernel) (by decide +kernel)⟩
theorem ckk_X9_byteAt : gCk yX9_byteAt 9 := ⟨_, rfl, rfl⟩
theorem sv_X9_clear : gSv yX9_clear := ⟨gm 828 (by decide +kernel) (by decide +kernel), gm 829 (by decide +kernel) (by decide +kernel)⟩
theorem ckk_X9_clear : gCk yX9_clear 9 := ⟨_, rfl, rfl⟩
theorem sv_X9_coins : gSv yX9_coins := ⟨gm 958 (by decide +kernel) (by decide +kernel), gm 959 (by decide +kernel) (by decide +kernel)⟩
theorem ckk_X9_coins : gCk yX9_coins 9 := ⟨_, rfl, rfl⟩
theorem sv_X9_count : gSv yX9_count := ⟨gm 997 (by decide +kernel) (by decide +kernel), gm 998 (by decide +kernel) (by decide +kernel)⟩
theorem ckk_X9_count : gCk yX9_count 9 := ⟨_, rfl, rfl⟩
theorem sv_X9_counts : gSv yX9_counts := ⟨gm 869 (by decide +kernel) (by decide +kernel), gmp 43 (by decide +kernel) (by decide +kernel)⟩
theorem ckk_X9_counts : gCk yX9_counts 9 := ⟨_, rfl, rfl⟩
theorem sv_X9_dear : gSv yX9_dear := ⟨gm 913 (by decide +kernel) (by decide +kernel), gmp 46 (by decide +kernel) (by decide +kernel)⟩
theorem ckk_X9_dear : gCk yX9_dear 9 := ⟨_, rfl, rfl⟩
theorem sv_X9_dueBy : gSv yX9_dueBy := ⟨gm 964 (by decide +kernel) (by decide +kernel), gmp 53 (by decide +kernel) (by decide +kernel)⟩
theorem ckk_X9_dueBy : gCk yX9_dueBy 9 := ⟨_, rfl, rfl⟩
theorem sv_X9_ends : gSv yX9_ends := ⟨gm 893 (by decide +kernel) (by decide +kernel), gm 894 (by decide +kernel) (by decide +kernel)⟩
theorem ckk_X9_ends : gCk yX9_ends 9 := ⟨_, rfl, rfl⟩
theorem sv_X9_falls : gSv yX9_falls := ⟨gm 860 (by decide +kernel) (by decide +kernel), gm 861 (by decide +kernel) (by decide +kernel)⟩
theorem ckk_X9_falls : gCk yX9_falls 9 := ⟨_, rfl, rfl⟩
theorem sv_X9_finds : gSv yX9_finds := ⟨gm 921 (by decide +kernel) (by decide +kernel), gmp 48 (by decide +kernel) (by decide +kernel)⟩
theorem ckk_X9_finds : gCk yX9_finds 9 := ⟨_, rfl, rfl⟩
theorem sv_X9_free : gSv yX9_free := ⟨gm 967 (by decide +kernel) (by decide +kernel), gm 968 (by decide +kernel) (by decide +kernel)⟩
theorem ckk_X9_free : gCk yX9_free 9 := ⟨_, rfl, rfl⟩
theorem sv_X9_house : gSv yX9_house := ⟨gm 832 (by decide +kernel) (by decide +kernel), gm 833 (by decide +kernel) (by decide +kernel)⟩
theorem ckk_X9_house : gCk yX9_house 9 := ⟨_, rfl, rfl⟩
theorem sv_X9_in : Cond.static yX9_in ∈ gTbl := gm 739 (by decide +kernel) (by decide +kernel)
theorem sv_X9_init : Cond.instanceMethod yX9_init ∈ gTbl := gm 720 (by decide +kernel) (by decide +kernel)
theorem sv_X9_isDigit : Cond.static yX9_isDigit ∈ gTbl := gm 742 (by decide +kernel) (by decide +kernel)
theorem sv_X9_isFloor : Cond.static yX9_isFloor ∈ gTbl := gm 928 (by decide +kernel) (by decide +kernel)
theorem sv_X9_isLetter : Cond.static yX9_isLetter ∈ gTbl := gm 736 (by decide +kernel) (by decide +kernel)
theorem sv_X9_isPerson : gSv yX9_isPerson := ⟨gm 853 (by decide +kernel) (by decide +kernel), gmp 41 (by decide +kernel) (by decide +kernel)⟩
theorem ckk_X9_isPerson : gCk yX9_isPerson 9 := ⟨_, rfl, rfl⟩
theorem sv_X9_isStair : gSv yX9_isStair := ⟨gm 841 (by decide +kernel) (by decide +kernel), gmp 39 (by decide +kernel) (by decide +kernel)⟩
theorem ckk_X9_isStair : gCk yX9_isStair 9 := ⟨_, rfl, rfl⟩
theorem sv_X9_isWay : gSv yX9_isWay := ⟨gm 948 (by decide +kernel) (by decide +kernel), gmp 52 (by decide +kernel) (by decide +kernel)⟩
theorem ckk_X9_isWay : gCk yX9_isWay 9 := ⟨_, rfl, rfl⟩
theorem sv_X9_keep : gSv yX9_keep := ⟨gm 989 (by decide +kernel) (by decide +kernel), gm 990 (by decide +kernel) (by decide +kernel)⟩
theorem ckk_X9_keep : gCk yX9_keep 9 := ⟨_, rfl, rfl⟩
theorem sv_X9_keeps : gSv yX9_keeps := ⟨gm 865 (by decide +kernel) (by decide +kernel), gmp 42 (by decide +kernel) (by decide +kernel)⟩
theorem ckk_X9_keeps : gCk yX9_keeps 9 := ⟨_, rfl, rfl⟩
theorem sv_X9_lays : gSv yX9_lays := ⟨gm 932 (by decide +kernel) (by decide +kernel), gmp 49 (by decide +kernel) (by decide +kernel)⟩
theorem ckk_X9_lays : gCk yX9_lays 9 := ⟨_, rfl, rfl⟩
theorem sv_X9_mark : gSv yX9_mark := ⟨gm 979 (by decide +kernel) (by decide +kernel), gm 980 (by decide +kernel) (by decide +kernel)⟩
theorem ckk_X9_mark : gCk yX9_mark 9 := ⟨_, rfl, rfl⟩
theorem sv_X9_more : Cond.static yX9_more ∈ gTbl := gm 897 (by decide +kernel) (by decide +kernel)
theorem sv_X9_now : gSv yX9_now := ⟨gm 908 (by decide +kernel) (by decide +kernel), gm 909 (by decide +kernel) (by decide +kernel)⟩
theorem ckk_X9_now : gCk yX9_now 9 := ⟨_, rfl, rfl⟩
theorem sv_X9_number : gSv yX9_number := ⟨gm 754 (by decide +kernel) (by decide +kernel), gmp 35 (by decide +kernel) (by decide +kernel)⟩
theorem ckk_X9_number : gCk yX9_number 9 := ⟨_, rfl, rfl⟩
theorem sv_X9_odds : gSv yX9_odds := ⟨gm 975 (by decide +kernel) (by decide +kernel), gm 976 (by decide +kernel) (by decide +kernel)⟩
theorem ckk_X9_odds : gCk yX9_odds 9 := ⟨_, rfl, rfl⟩
theorem sv_X9_once : gSv yX9_once := ⟨gm 762 (by decide +kernel) (by decide +kernel), gmp 37 (by decide +kernel) (by decide +kernel)⟩
theorem ckk_X9_once : gCk yX9_once 9 := ⟨_, rfl, rfl⟩
theorem sv_X9_other : gSv yX9_other := ⟨gm 940 (by decide +kernel) (by decide +kernel), gmp 51 (by decide +kernel) (by decide +kernel)⟩
theorem ckk_X9_other : gCk yX9_other 9 := ⟨_, rfl, rfl⟩
theorem sv_X9_paid : gSv yX9_paid := ⟨gm 951 (by decide +kernel) (by decide +kernel), gm 952 (by decide +kernel) (by decide +kernel)⟩
theorem ckk_X9_paid : gCk yX9_paid 9 := ⟨_, rfl, rfl⟩
theorem sv_X9_pays : gSv yX9_pays := ⟨gm 873 (by decide +kernel) (by decide +kernel), gmp 44 (by decide +kernel) (by decide +kernel)⟩
theorem ckk_X9_pays : gCk yX9_pays 9 := ⟨_, rfl, rfl⟩
theorem sv_X9_person : gSv yX9_person := ⟨gm 848 (by decide +kernel) (by decide +kernel), gm 849 (by decide +kernel) (by decide +kernel)⟩
theorem ckk_X9_person : gCk yX9_person 9 := ⟨_, rfl, rfl⟩
theorem sv_X9_price : gSv yX9_price := ⟨gm 845 (by decide +kernel) (by decide +kernel), gmp 40 (by decide +kernel) (by decide +kernel)⟩
theorem ckk_X9_price : gCk yX9_price 9 := ⟨_, rfl, rfl⟩
theorem sv_X9_reads : gSv yX9_reads := ⟨gm 725 (by decide +kernel) (by decide +kernel), gmp 30 (by decide +kernel) (by decide +kernel)⟩
theorem ckk_X9_reads : gCk yX9_reads 9 := ⟨_, rfl, rfl⟩
theorem sv_X9_readsItem : gSv yX9_readsItem := ⟨gm 746 (by decide +kernel) (by decide +kernel), gmp 33 (by decide +kernel) (by decide +kernel)⟩
theorem ckk_X9_readsItem : gCk yX9_readsItem 9 := ⟨_, rfl, rfl⟩
theorem sv_X9_readsPerson : gSv yX9_readsPerson := ⟨gm 758 (by decide +kernel) (by decide +kernel), gmp 36 (by decide +kernel) (by decide +kernel)⟩
theorem ckk_X9_readsPerson : gCk yX9_readsPerson 9 := ⟨_, rfl, rfl⟩
theorem sv_X9_readsStair : gSv yX9_readsStair := ⟨gm 750 (by decide +kernel) (by decide +kernel), gmp 34 (by decide +kernel) (by decide +kernel)⟩
theorem ckk_X9_readsStair : gCk yX9_readsStair 9 := ⟨_, rfl, rfl⟩
theorem sv_X9_redeems : gSv yX9_redeems := ⟨gm 889 (by decide +kernel) (by decide +kernel), gm 890 (by decide +kernel) (by decide +kernel)⟩
theorem ckk_X9_redeems : gCk yX9_redeems 9 := ⟨_, rfl, rfl⟩
theorem sv_X9_sells : gSv yX9_sells := ⟨gm 885 (by decide +kernel) (by decide +kernel), gm 886 (by decide +kernel) (by decide +kernel)⟩
theorem ckk_X9_sells : gCk yX9_sells 9 := ⟨_, rfl, rfl⟩
theorem sv_X9_stair : gSv yX9_stair := ⟨gm 836 (by decide +kernel) (by decide +kernel), gm 837 (by decide +kernel) (by decide +kernel)⟩
theorem ckk_X9_stair : gCk yX9_stair 9 := ⟨_, rfl, rfl⟩
theorem sv_X9_struck : gSv yX9_struck := ⟨gm 917 (by decide +kernel) (by decide +kernel), gmp 47 (by decide +kernel) (by decide +kernel)⟩
theorem ckk_X9_struck : gCk yX9_struck 9 := ⟨_, rfl, rfl⟩
theorem sv_X9_surest : gSv yX9_surest := ⟨gm 924 (by decide +kernel) (by decide +kernel), gm 925 (by decide +kernel) (by decide +kernel)⟩
theorem ckk_X9_surest : gCk yX9_surest 9 := ⟨_, rfl, rfl⟩
theorem sv_X9_tells : gSv yX9_tells := ⟨gm 766 (by decide +kernel) (by decide +kernel), gmp 38 (by decide +kernel) (by decide +kernel)⟩
theorem ckk_X9_tells : gCk yX9_tells 9 := ⟨_, rfl, rfl⟩
theorem sv_X9_throwsDoll : gSv yX9_throwsDoll := ⟨gm 881 (by decide +kernel) (by decide +kernel), gm 882 (by decide +kernel) (by decide +kernel)⟩
theorem ckk_X9_throwsDoll : gCk yX9_throwsDoll 9 := ⟨_, rfl, rfl⟩
theorem sv_X9_together : gSv yX9_together := ⟨gm 877 (by decide +kernel) (by decide +kernel), gm 878 (by decide +kernel) (by decide +kernel)⟩
theorem ckk_X9_together : gCk yX9_together 9 := ⟨_, rfl, rfl⟩
theorem sv_X9_token : gSv yX9_token := ⟨gm 729 (by decide +kernel) (by decide +kernel), gmp 31 (by decide +kernel) (by decide +kernel)⟩
theorem ckk_X9_token : gCk yX9_token 9 := ⟨_, rfl, rfl⟩
theorem sv_X9_trace : gSv yX9_trace := ⟨gm 1001 (by decide +kernel) (by decide +kernel), gm 1002 (by decide +kernel) (by decide +kernel)⟩
theorem ckk_X9_trace : gCk yX9_trace 9 := ⟨_, rfl, rfl⟩
theorem sv_X9_type : gSv yX9_type := ⟨gm 824 (by decide +kernel) (by decide +kernel), gm 825 (by decide +kernel) (by decide +kernel)⟩
theorem ckk_X9_type : gCk yX9_type 9 := ⟨_, rfl, rfl⟩
theorem sv_X9_undo : gSv yX9_undo := ⟨gm 904 (by decide +kernel) (by decide +kernel), gm 905 (by decide +kernel) (by decide +kernel)⟩
theorem ckk_X9_undo : gCk yX9_undo 9 := ⟨_, rfl, rfl⟩
theorem sv_X9_weight : gSv yX9_weight := ⟨gm 936 (by decide +kernel) (by decide +kernel), gmp 50 (by decide +kernel) (by decide +kernel)⟩
theorem ckk_X9_weight : gCk yX9_weight 9 := ⟨_, rfl, rfl⟩
theorem sv_X9_who : gSv yX9_who := ⟨gm 971 (by decide +kernel) (by decide +kernel), gm 972 (by decide +kernel) (by decide +kernel)⟩
theorem ckk_X9_who : gCk yX9_who 9 := ⟨_, rfl, rfl⟩
theorem cs_RX8_256 : Jvm.Cond.constant RX8 256 (-1000000) ∈ gTbl := gm 664 (by decide +kernel) (by decide +kernel)
theorem cs_RX1_51 : Jvm.Cond.constant RX1 51 (999999) ∈ gTbl := gm 439 (by decide +kernel) (by decide +kernel)
theorem cs_RX2_34 : Jvm.Cond.constant RX2 34 (1000000000) ∈ gTbl := gm 570 (by decide +kernel) (by decide +kernel)
theorem cs_RX5_45 : Jvm.Cond.constant RX5 45 (1000000000) ∈ gTbl := gm 510 (by decide +kernel) (by decide +kernel)
theorem cs_RX7_15 : Jvm.Cond.constant RX7 15 (1000000000) ∈ gTbl := gm 528 (by decide +kernel) (by decide +kernel)
theorem cs_RX9_113 : Jvm.Cond.constant RX9 113 (999999) ∈ gTbl := gm 875 (by decide +kernel) (by decide +kernel)
theorem cs_RX9_160 : Jvm.Cond.constant RX9 160 (1000000) ∈ gTbl := gm 961 (by decide +kernel) (by decide +kernel)
theorem cs_RX9_164 : Jvm.Cond.constant RX9 164 (-1000000) ∈ gTbl := gm 982 (by decide +kernel) (by decide +kernel)
theorem cs_RX8_294 : Jvm.Cond.constantLong RX8 294 (10) ∈ gTbl := gm 673 (by decide +kernel) (by decide +kernel)
theorem cs_RX8_296 : Jvm.Cond.constantLong RX8 296 (100) ∈ gTbl := gm 678 (by decide +kernel) (by decide +kernel)
theorem cs_RX8_298 : Jvm.Cond.constantLong RX8 298 (1000) ∈ gTbl := gm 683 (by decide +kernel) (by decide +kernel)
theorem cs_RX8_300 : Jvm.Cond.constantLong RX8 300 (10000) ∈ gTbl := gm 688 (by decide +kernel) (by decide +kernel)
theorem cs_RX8_302 : Jvm.Cond.constantLong RX8 302 (100000) ∈ gTbl := gm 693 (by decide +kernel) (by decide +kernel)
theorem cs_RX9_169 : Jvm.Cond.constantLong RX9 169 (11) ∈ gTbl := gm 983 (by decide +kernel) (by decide +kernel)
theorem cs_RX9_171 : Jvm.Cond.constantLong RX9 171 (101) ∈ gTbl := gm 984 (by decide +kernel) (by decide +kernel)
theorem cs_RX9_173 : Jvm.Cond.constantLong RX9 173 (1011) ∈ gTbl := gm 985 (by decide +kernel) (by decide +kernel)
theorem cs_RX9_175 : Jvm.Cond.constantLong RX9 175 (10101) ∈ gTbl := gm 986 (by decide +kernel) (by decide +kernel)
theorem cs_RX9_177 : Jvm.Cond.constantLong RX9 177 (100001) ∈ gTbl := gm 987 (by decide +kernel) (by decide +kernel)
theorem cp_RX1_33 : Cond.methodLink RX1 33 arraycopyName ∈ gTbl := gm 381 (by decide +kernel) (by decide +kernel)
theorem cp_RX5_28 : Cond.methodLink RX5 28 arraycopyName ∈ gTbl := gm 502 (by decide +kernel) (by decide +kernel)
end
