section
-- ===== PART A: goes FIRST, ahead of the names: the tables' words, and 'selects' of the private methods out of them =====
/-- a private method of a class that the tables say can be made, by its rows of tables_1 -/
def lw_okq (q : MethodName × Nat) : Prop := (q.1.cls ≠ "java/lang/invoke/MethodHandle" ∧ q.1.cls ≠ "java/lang/invoke/VarHandle") ∧ Cond.instantiable q.1.cls q.2 ∈ tables_1 ∧ Cond.privateMethod q.1 ∈ tables_1 ∧ Cond.instanceMethod q.1 ∈ tables_1
theorem lw_p0 : lw_okq (⟨"SleeplessVillage$Reader", "skipBlanks", "()V"⟩, 6) := ⟨⟨by decide +kernel, by decide +kernel⟩, List.mem_of_getElem? (i := 24) (by decide +kernel), List.mem_of_getElem? (i := 327) (by decide +kernel), List.mem_of_getElem? (i := 328) (by decide +kernel)⟩
theorem lw_p1 : lw_okq (⟨"SleeplessVillage$Reader", "letterHere", "()I"⟩, 6) := ⟨⟨by decide +kernel, by decide +kernel⟩, List.mem_of_getElem? (i := 24) (by decide +kernel), List.mem_of_getElem? (i := 331) (by decide +kernel), List.mem_of_getElem? (i := 332) (by decide +kernel)⟩
theorem lw_p2 : lw_okq (⟨"SleeplessVillage$Reader", "readClause", "()V"⟩, 6) := ⟨⟨by decide +kernel, by decide +kernel⟩, List.mem_of_getElem? (i := 24) (by decide +kernel), List.mem_of_getElem? (i := 335) (by decide +kernel), List.mem_of_getElem? (i := 336) (by decide +kernel)⟩
theorem lw_p3 : lw_okq (⟨"SleeplessVillage$Reader", "faultOfWord", "(I)I"⟩, 6) := ⟨⟨by decide +kernel, by decide +kernel⟩, List.mem_of_getElem? (i := 24) (by decide +kernel), List.mem_of_getElem? (i := 339) (by decide +kernel), List.mem_of_getElem? (i := 340) (by decide +kernel)⟩
theorem lw_p4 : lw_okq (⟨"SleeplessVillage$Reader", "blame", "(II)V"⟩, 6) := ⟨⟨by decide +kernel, by decide +kernel⟩, List.mem_of_getElem? (i := 24) (by decide +kernel), List.mem_of_getElem? (i := 347) (by decide +kernel), List.mem_of_getElem? (i := 348) (by decide +kernel)⟩
theorem lw_p5 : lw_okq (⟨"SleeplessVillage$Reader", "readNight", "()V"⟩, 6) := ⟨⟨by decide +kernel, by decide +kernel⟩, List.mem_of_getElem? (i := 24) (by decide +kernel), List.mem_of_getElem? (i := 351) (by decide +kernel), List.mem_of_getElem? (i := 352) (by decide +kernel)⟩
theorem lw_p6 : lw_okq (⟨"SleeplessVillage$Reader", "readNumber", "(II)I"⟩, 6) := ⟨⟨by decide +kernel, by decide +kernel⟩, List.mem_of_getElem? (i := 24) (by decide +kernel), List.mem_of_getElem? (i := 355) (by decide +kernel), List.mem_of_getElem? (i := 356) (by decide +kernel)⟩
theorem lw_p7 : lw_okq (⟨"SleeplessVillage$Reader", "readEnd", "()V"⟩, 6) := ⟨⟨by decide +kernel, by decide +kernel⟩, List.mem_of_getElem? (i := 24) (by decide +kernel), List.mem_of_getElem? (i := 362) (by decide +kernel), List.mem_of_getElem? (i := 363) (by decide +kernel)⟩
theorem lw_p8 : lw_okq (⟨"SleeplessVillage$Reader", "readWatcher", "()V"⟩, 6) := ⟨⟨by decide +kernel, by decide +kernel⟩, List.mem_of_getElem? (i := 24) (by decide +kernel), List.mem_of_getElem? (i := 366) (by decide +kernel), List.mem_of_getElem? (i := 367) (by decide +kernel)⟩
theorem lw_p9 : lw_okq (⟨"SleeplessVillage$Reader", "readSleeper", "()V"⟩, 6) := ⟨⟨by decide +kernel, by decide +kernel⟩, List.mem_of_getElem? (i := 24) (by decide +kernel), List.mem_of_getElem? (i := 374) (by decide +kernel), List.mem_of_getElem? (i := 375) (by decide +kernel)⟩
theorem lw_p10 : lw_okq (⟨"SleeplessVillage$State", "endHour", "(LSleeplessVillage$Contract;)V"⟩, 9) := ⟨⟨by decide +kernel, by decide +kernel⟩, List.mem_of_getElem? (i := 121) (by decide +kernel), List.mem_of_getElem? (i := 491) (by decide +kernel), List.mem_of_getElem? (i := 492) (by decide +kernel)⟩
theorem lw_p11 : lw_okq (⟨"SleeplessVillage", "refusalOfHours", "(I)I"⟩, 9) := ⟨⟨by decide +kernel, by decide +kernel⟩, List.mem_of_getElem? (i := 16) (by decide +kernel), List.mem_of_getElem? (i := 507) (by decide +kernel), List.mem_of_getElem? (i := 508) (by decide +kernel)⟩
theorem lw_p12 : lw_okq (⟨"SleeplessVillage$Trial", "layRow", "(LSleeplessVillage$State;)V"⟩, 5) := ⟨⟨by decide +kernel, by decide +kernel⟩, List.mem_of_getElem? (i := 217) (by decide +kernel), List.mem_of_getElem? (i := 543) (by decide +kernel), List.mem_of_getElem? (i := 544) (by decide +kernel)⟩
theorem lw_p13 : lw_okq (⟨"SleeplessVillage$Trial", "chooseFrom", "(LSleeplessVillage$Contract;I)V"⟩, 5) := ⟨⟨by decide +kernel, by decide +kernel⟩, List.mem_of_getElem? (i := 217) (by decide +kernel), List.mem_of_getElem? (i := 548) (by decide +kernel), List.mem_of_getElem? (i := 549) (by decide +kernel)⟩
theorem lw_p14 : lw_okq (⟨"SleeplessVillage$Trial", "leastPossibleEnd", "(LSleeplessVillage$Contract;[II)I"⟩, 5) := ⟨⟨by decide +kernel, by decide +kernel⟩, List.mem_of_getElem? (i := 217) (by decide +kernel), List.mem_of_getElem? (i := 553) (by decide +kernel), List.mem_of_getElem? (i := 554) (by decide +kernel)⟩
theorem lw_p15 : lw_okq (⟨"SleeplessVillage$Trial", "takeChosen", "(I)V"⟩, 5) := ⟨⟨by decide +kernel, by decide +kernel⟩, List.mem_of_getElem? (i := 217) (by decide +kernel), List.mem_of_getElem? (i := 558) (by decide +kernel), List.mem_of_getElem? (i := 559) (by decide +kernel)⟩
def lw_privs_1 : List (MethodName × Nat) := [(⟨"SleeplessVillage$Reader", "skipBlanks", "()V"⟩, 6), (⟨"SleeplessVillage$Reader", "letterHere", "()I"⟩, 6), (⟨"SleeplessVillage$Reader", "readClause", "()V"⟩, 6), (⟨"SleeplessVillage$Reader", "faultOfWord", "(I)I"⟩, 6), (⟨"SleeplessVillage$Reader", "blame", "(II)V"⟩, 6), (⟨"SleeplessVillage$Reader", "readNight", "()V"⟩, 6), (⟨"SleeplessVillage$Reader", "readNumber", "(II)I"⟩, 6), (⟨"SleeplessVillage$Reader", "readEnd", "()V"⟩, 6), (⟨"SleeplessVillage$Reader", "readWatcher", "()V"⟩, 6), (⟨"SleeplessVillage$Reader", "readSleeper", "()V"⟩, 6), (⟨"SleeplessVillage$State", "endHour", "(LSleeplessVillage$Contract;)V"⟩, 9), (⟨"SleeplessVillage", "refusalOfHours", "(I)I"⟩, 9), (⟨"SleeplessVillage$Trial", "layRow", "(LSleeplessVillage$State;)V"⟩, 5), (⟨"SleeplessVillage$Trial", "chooseFrom", "(LSleeplessVillage$Contract;I)V"⟩, 5), (⟨"SleeplessVillage$Trial", "leastPossibleEnd", "(LSleeplessVillage$Contract;[II)I"⟩, 5), (⟨"SleeplessVillage$Trial", "takeChosen", "(I)V"⟩, 5)]
theorem lw_r1 : ∀ q ∈ lw_privs_1, lw_okq q := List.forall_mem_cons.mpr ⟨lw_p0, List.forall_mem_cons.mpr ⟨lw_p1, List.forall_mem_cons.mpr ⟨lw_p2, List.forall_mem_cons.mpr ⟨lw_p3, List.forall_mem_cons.mpr ⟨lw_p4, List.forall_mem_cons.mpr ⟨lw_p5, List.forall_mem_cons.mpr ⟨lw_p6, List.forall_mem_cons.mpr ⟨lw_p7, List.forall_mem_cons.mpr ⟨lw_p8, List.forall_mem_cons.mpr ⟨lw_p9, List.forall_mem_cons.mpr ⟨lw_p10, List.forall_mem_cons.mpr ⟨lw_p11, List.forall_mem_cons.mpr ⟨lw_p12, List.forall_mem_cons.mpr ⟨lw_p13, List.forall_mem_cons.mpr ⟨lw_p14, List.forall_mem_cons.mpr ⟨lw_p15, fun _ h => absurd h List.not_mem_nil⟩⟩⟩⟩⟩⟩⟩⟩⟩⟩⟩⟩⟩⟩⟩⟩
theorem lw_p16 : lw_okq (⟨"SleeplessVillage$Trial", "nodsOfAll", "(LSleeplessVillage$Contract;I)I"⟩, 5) := ⟨⟨by decide +kernel, by decide +kernel⟩, List.mem_of_getElem? (i := 217) (by decide +kernel), List.mem_of_getElem? (i := 570) (by decide +kernel), List.mem_of_getElem? (i := 571) (by decide +kernel)⟩
theorem lw_p17 : lw_okq (⟨"SleeplessVillage$Trial", "holds", "(LSleeplessVillage$Contract;I)Z"⟩, 5) := ⟨⟨by decide +kernel, by decide +kernel⟩, List.mem_of_getElem? (i := 217) (by decide +kernel), List.mem_of_getElem? (i := 603) (by decide +kernel), List.mem_of_getElem? (i := 604) (by decide +kernel)⟩
theorem lw_p18 : lw_okq (⟨"SleeplessVillage$Seen", "fits", "(LSleeplessVillage$Contract;II)Z"⟩, 3) := ⟨⟨by decide +kernel, by decide +kernel⟩, List.mem_of_getElem? (i := 243) (by decide +kernel), List.mem_of_getElem? (i := 642) (by decide +kernel), List.mem_of_getElem? (i := 643) (by decide +kernel)⟩
theorem lw_p19 : lw_okq (⟨"SleeplessVillage$Seen", "greaterPart", "(LSleeplessVillage$Contract;II)I"⟩, 3) := ⟨⟨by decide +kernel, by decide +kernel⟩, List.mem_of_getElem? (i := 243) (by decide +kernel), List.mem_of_getElem? (i := 665) (by decide +kernel), List.mem_of_getElem? (i := 666) (by decide +kernel)⟩
theorem lw_p20 : lw_okq (⟨"SleeplessVillageModel", "here", "()I"⟩, 40) := ⟨⟨by decide +kernel, by decide +kernel⟩, List.mem_of_getElem? (i := 716) (by decide +kernel), List.mem_of_getElem? (i := 857) (by decide +kernel), List.mem_of_getElem? (i := 858) (by decide +kernel)⟩
theorem lw_p21 : lw_okq (⟨"SleeplessVillageModel", "takeClause", "()I"⟩, 40) := ⟨⟨by decide +kernel, by decide +kernel⟩, List.mem_of_getElem? (i := 716) (by decide +kernel), List.mem_of_getElem? (i := 861) (by decide +kernel), List.mem_of_getElem? (i := 862) (by decide +kernel)⟩
theorem lw_p22 : lw_okq (⟨"SleeplessVillageModel", "fails", "(II)I"⟩, 40) := ⟨⟨by decide +kernel, by decide +kernel⟩, List.mem_of_getElem? (i := 716) (by decide +kernel), List.mem_of_getElem? (i := 865) (by decide +kernel), List.mem_of_getElem? (i := 866) (by decide +kernel)⟩
theorem lw_p23 : lw_okq (⟨"SleeplessVillageModel", "takeContract", "()I"⟩, 40) := ⟨⟨by decide +kernel, by decide +kernel⟩, List.mem_of_getElem? (i := 716) (by decide +kernel), List.mem_of_getElem? (i := 869) (by decide +kernel), List.mem_of_getElem? (i := 870) (by decide +kernel)⟩
theorem lw_p24 : lw_okq (⟨"SleeplessVillageModel", "into", "([IIII)I"⟩, 40) := ⟨⟨by decide +kernel, by decide +kernel⟩, List.mem_of_getElem? (i := 716) (by decide +kernel), List.mem_of_getElem? (i := 873) (by decide +kernel), List.mem_of_getElem? (i := 874) (by decide +kernel)⟩
theorem lw_p25 : lw_okq (⟨"SleeplessVillageModel", "takeNumber", "(II)I"⟩, 40) := ⟨⟨by decide +kernel, by decide +kernel⟩, List.mem_of_getElem? (i := 716) (by decide +kernel), List.mem_of_getElem? (i := 877) (by decide +kernel), List.mem_of_getElem? (i := 878) (by decide +kernel)⟩
theorem lw_p26 : lw_okq (⟨"SleeplessVillageModel", "takeWatcher", "()I"⟩, 40) := ⟨⟨by decide +kernel, by decide +kernel⟩, List.mem_of_getElem? (i := 716) (by decide +kernel), List.mem_of_getElem? (i := 883) (by decide +kernel), List.mem_of_getElem? (i := 884) (by decide +kernel)⟩
theorem lw_p27 : lw_okq (⟨"SleeplessVillageModel", "takeSleeper", "()I"⟩, 40) := ⟨⟨by decide +kernel, by decide +kernel⟩, List.mem_of_getElem? (i := 716) (by decide +kernel), List.mem_of_getElem? (i := 887) (by decide +kernel), List.mem_of_getElem? (i := 888) (by decide +kernel)⟩
theorem lw_p28 : lw_okq (⟨"SleeplessVillageModel", "takeRead", "()V"⟩, 40) := ⟨⟨by decide +kernel, by decide +kernel⟩, List.mem_of_getElem? (i := 716) (by decide +kernel), List.mem_of_getElem? (i := 891) (by decide +kernel), List.mem_of_getElem? (i := 892) (by decide +kernel)⟩
theorem lw_p29 : lw_okq (⟨"SleeplessVillageModel", "isWatcher", "(I)Z"⟩, 40) := ⟨⟨by decide +kernel, by decide +kernel⟩, List.mem_of_getElem? (i := 716) (by decide +kernel), List.mem_of_getElem? (i := 907) (by decide +kernel), List.mem_of_getElem? (i := 908) (by decide +kernel)⟩
theorem lw_p30 : lw_okq (⟨"SleeplessVillageModel", "isSleeper", "(I)Z"⟩, 40) := ⟨⟨by decide +kernel, by decide +kernel⟩, List.mem_of_getElem? (i := 716) (by decide +kernel), List.mem_of_getElem? (i := 916) (by decide +kernel), List.mem_of_getElem? (i := 917) (by decide +kernel)⟩
theorem lw_p31 : lw_okq (⟨"SleeplessVillageModel", "isSet", "(I)Z"⟩, 40) := ⟨⟨by decide +kernel, by decide +kernel⟩, List.mem_of_getElem? (i := 716) (by decide +kernel), List.mem_of_getElem? (i := 924) (by decide +kernel), List.mem_of_getElem? (i := 925) (by decide +kernel)⟩
def lw_privs_2 : List (MethodName × Nat) := [(⟨"SleeplessVillage$Trial", "nodsOfAll", "(LSleeplessVillage$Contract;I)I"⟩, 5), (⟨"SleeplessVillage$Trial", "holds", "(LSleeplessVillage$Contract;I)Z"⟩, 5), (⟨"SleeplessVillage$Seen", "fits", "(LSleeplessVillage$Contract;II)Z"⟩, 3), (⟨"SleeplessVillage$Seen", "greaterPart", "(LSleeplessVillage$Contract;II)I"⟩, 3), (⟨"SleeplessVillageModel", "here", "()I"⟩, 40), (⟨"SleeplessVillageModel", "takeClause", "()I"⟩, 40), (⟨"SleeplessVillageModel", "fails", "(II)I"⟩, 40), (⟨"SleeplessVillageModel", "takeContract", "()I"⟩, 40), (⟨"SleeplessVillageModel", "into", "([IIII)I"⟩, 40), (⟨"SleeplessVillageModel", "takeNumber", "(II)I"⟩, 40), (⟨"SleeplessVillageModel", "takeWatcher", "()I"⟩, 40), (⟨"SleeplessVillageModel", "takeSleeper", "()I"⟩, 40), (⟨"SleeplessVillageModel", "takeRead", "()V"⟩, 40), (⟨"SleeplessVillageModel", "isWatcher", "(I)Z"⟩, 40), (⟨"SleeplessVillageModel", "isSleeper", "(I)Z"⟩, 40), (⟨"SleeplessVillageModel", "isSet", "(I)Z"⟩, 40)]
theorem lw_r2 : ∀ q ∈ lw_privs_2, lw_okq q := List.forall_mem_cons.mpr ⟨lw_p16, List.forall_mem_cons.mpr ⟨lw_p17, List.forall_mem_cons.mpr ⟨lw_p18, List.forall_mem_cons.mpr ⟨lw_p19, List.forall_mem_cons.mpr ⟨lw_p20, List.forall_mem_cons.mpr ⟨lw_p21, List.forall_mem_cons.mpr ⟨lw_p22, List.forall_mem_cons.mpr ⟨lw_p23, List.forall_mem_cons.mpr ⟨lw_p24, List.forall_mem_cons.mpr ⟨lw_p25, List.forall_mem_cons.mpr ⟨lw_p26, List.forall_mem_cons.mpr ⟨lw_p27, List.forall_mem_cons.mpr ⟨lw_p28, List.forall_mem_cons.mpr ⟨lw_p29, List.forall_mem_cons.mpr ⟨lw_p30, List.forall_mem_cons.mpr ⟨lw_p31, fun _ h => absurd h List.not_mem_nil⟩⟩⟩⟩⟩⟩⟩⟩⟩⟩⟩⟩⟩⟩⟩⟩
theorem lw_p32 : lw_okq (⟨"SleeplessVillageModel", "remember", "()V"⟩, 40) := ⟨⟨by decide +kernel, by decide +kernel⟩, List.mem_of_getElem? (i := 716) (by decide +kernel), List.mem_of_getElem? (i := 930) (by decide +kernel), List.mem_of_getElem? (i := 931) (by decide +kernel)⟩
theorem lw_p33 : lw_okq (⟨"SleeplessVillageModel", "hourBy", "(IZ)V"⟩, 40) := ⟨⟨by decide +kernel, by decide +kernel⟩, List.mem_of_getElem? (i := 716) (by decide +kernel), List.mem_of_getElem? (i := 934) (by decide +kernel), List.mem_of_getElem? (i := 935) (by decide +kernel)⟩
theorem lw_p34 : lw_okq (⟨"SleeplessVillageModel", "tire", "(IZ)I"⟩, 40) := ⟨⟨by decide +kernel, by decide +kernel⟩, List.mem_of_getElem? (i := 716) (by decide +kernel), List.mem_of_getElem? (i := 938) (by decide +kernel), List.mem_of_getElem? (i := 939) (by decide +kernel)⟩
theorem lw_p35 : lw_okq (⟨"SleeplessVillageModel", "passHour", "()V"⟩, 40) := ⟨⟨by decide +kernel, by decide +kernel⟩, List.mem_of_getElem? (i := 716) (by decide +kernel), List.mem_of_getElem? (i := 958) (by decide +kernel), List.mem_of_getElem? (i := 959) (by decide +kernel)⟩
theorem lw_p36 : lw_okq (⟨"SleeplessVillageModel", "hoursRefused", "(I)I"⟩, 40) := ⟨⟨by decide +kernel, by decide +kernel⟩, List.mem_of_getElem? (i := 716) (by decide +kernel), List.mem_of_getElem? (i := 970) (by decide +kernel), List.mem_of_getElem? (i := 971) (by decide +kernel)⟩
theorem lw_p37 : lw_okq (⟨"SleeplessVillageModel", "draw", "(I)I"⟩, 40) := ⟨⟨by decide +kernel, by decide +kernel⟩, List.mem_of_getElem? (i := 716) (by decide +kernel), List.mem_of_getElem? (i := 979) (by decide +kernel), List.mem_of_getElem? (i := 980) (by decide +kernel)⟩
theorem lw_p38 : lw_okq (⟨"SleeplessVillageModel", "findWatches", "()V"⟩, 40) := ⟨⟨by decide +kernel, by decide +kernel⟩, List.mem_of_getElem? (i := 716) (by decide +kernel), List.mem_of_getElem? (i := 995) (by decide +kernel), List.mem_of_getElem? (i := 996) (by decide +kernel)⟩
theorem lw_p39 : lw_okq (⟨"SleeplessVillageModel", "save", "()V"⟩, 40) := ⟨⟨by decide +kernel, by decide +kernel⟩, List.mem_of_getElem? (i := 716) (by decide +kernel), List.mem_of_getElem? (i := 999) (by decide +kernel), List.mem_of_getElem? (i := 1000) (by decide +kernel)⟩
theorem lw_p40 : lw_okq (⟨"SleeplessVillageModel", "behindRow", "()I"⟩, 40) := ⟨⟨by decide +kernel, by decide +kernel⟩, List.mem_of_getElem? (i := 716) (by decide +kernel), List.mem_of_getElem? (i := 1003) (by decide +kernel), List.mem_of_getElem? (i := 1004) (by decide +kernel)⟩
theorem lw_p41 : lw_okq (⟨"SleeplessVillageModel", "putBack", "()V"⟩, 40) := ⟨⟨by decide +kernel, by decide +kernel⟩, List.mem_of_getElem? (i := 716) (by decide +kernel), List.mem_of_getElem? (i := 1007) (by decide +kernel), List.mem_of_getElem? (i := 1008) (by decide +kernel)⟩
theorem lw_p42 : lw_okq (⟨"SleeplessVillageModel", "nextRow", "()Z"⟩, 40) := ⟨⟨by decide +kernel, by decide +kernel⟩, List.mem_of_getElem? (i := 716) (by decide +kernel), List.mem_of_getElem? (i := 1011) (by decide +kernel), List.mem_of_getElem? (i := 1012) (by decide +kernel)⟩
theorem lw_p43 : lw_okq (⟨"SleeplessVillageModel", "nodsOfAll", "(I)I"⟩, 40) := ⟨⟨by decide +kernel, by decide +kernel⟩, List.mem_of_getElem? (i := 716) (by decide +kernel), List.mem_of_getElem? (i := 1020) (by decide +kernel), List.mem_of_getElem? (i := 1021) (by decide +kernel)⟩
theorem lw_p44 : lw_okq (⟨"SleeplessVillageModel", "holds", "(I)Z"⟩, 40) := ⟨⟨by decide +kernel, by decide +kernel⟩, List.mem_of_getElem? (i := 716) (by decide +kernel), List.mem_of_getElem? (i := 1036) (by decide +kernel), List.mem_of_getElem? (i := 1037) (by decide +kernel)⟩
theorem lw_p45 : lw_okq (⟨"SleeplessVillageModel", "allHours", "()I"⟩, 40) := ⟨⟨by decide +kernel, by decide +kernel⟩, List.mem_of_getElem? (i := 716) (by decide +kernel), List.mem_of_getElem? (i := 1044) (by decide +kernel), List.mem_of_getElem? (i := 1045) (by decide +kernel)⟩
theorem lw_p46 : lw_okq (⟨"SleeplessVillageModel", "sureOf", "(I)I"⟩, 40) := ⟨⟨by decide +kernel, by decide +kernel⟩, List.mem_of_getElem? (i := 716) (by decide +kernel), List.mem_of_getElem? (i := 1067) (by decide +kernel), List.mem_of_getElem? (i := 1068) (by decide +kernel)⟩
theorem lw_p47 : lw_okq (⟨"SleeplessVillageModel", "couldNod", "(II)Z"⟩, 40) := ⟨⟨by decide +kernel, by decide +kernel⟩, List.mem_of_getElem? (i := 716) (by decide +kernel), List.mem_of_getElem? (i := 1071) (by decide +kernel), List.mem_of_getElem? (i := 1072) (by decide +kernel)⟩
def lw_privs_3 : List (MethodName × Nat) := [(⟨"SleeplessVillageModel", "remember", "()V"⟩, 40), (⟨"SleeplessVillageModel", "hourBy", "(IZ)V"⟩, 40), (⟨"SleeplessVillageModel", "tire", "(IZ)I"⟩, 40), (⟨"SleeplessVillageModel", "passHour", "()V"⟩, 40), (⟨"SleeplessVillageModel", "hoursRefused", "(I)I"⟩, 40), (⟨"SleeplessVillageModel", "draw", "(I)I"⟩, 40), (⟨"SleeplessVillageModel", "findWatches", "()V"⟩, 40), (⟨"SleeplessVillageModel", "save", "()V"⟩, 40), (⟨"SleeplessVillageModel", "behindRow", "()I"⟩, 40), (⟨"SleeplessVillageModel", "putBack", "()V"⟩, 40), (⟨"SleeplessVillageModel", "nextRow", "()Z"⟩, 40), (⟨"SleeplessVillageModel", "nodsOfAll", "(I)I"⟩, 40), (⟨"SleeplessVillageModel", "holds", "(I)Z"⟩, 40), (⟨"SleeplessVillageModel", "allHours", "()I"⟩, 40), (⟨"SleeplessVillageModel", "sureOf", "(I)I"⟩, 40), (⟨"SleeplessVillageModel", "couldNod", "(II)Z"⟩, 40)]
theorem lw_r3 : ∀ q ∈ lw_privs_3, lw_okq q := List.forall_mem_cons.mpr ⟨lw_p32, List.forall_mem_cons.mpr ⟨lw_p33, List.forall_mem_cons.mpr ⟨lw_p34, List.forall_mem_cons.mpr ⟨lw_p35, List.forall_mem_cons.mpr ⟨lw_p36, List.forall_mem_cons.mpr ⟨lw_p37, List.forall_mem_cons.mpr ⟨lw_p38, List.forall_mem_cons.mpr ⟨lw_p39, List.forall_mem_cons.mpr ⟨lw_p40, List.forall_mem_cons.mpr ⟨lw_p41, List.forall_mem_cons.mpr ⟨lw_p42, List.forall_mem_cons.mpr ⟨lw_p43, List.forall_mem_cons.mpr ⟨lw_p44, List.forall_mem_cons.mpr ⟨lw_p45, List.forall_mem_cons.mpr ⟨lw_p46, List.forall_mem_cons.mpr ⟨lw_p47, fun _ h => absurd h List.not_mem_nil⟩⟩⟩⟩⟩⟩⟩⟩⟩⟩⟩⟩⟩⟩⟩⟩
def lw_privs : List (MethodName × Nat) := lw_privs_1 ++ (lw_privs_2 ++ (lw_privs_3))
def lw_tbl : List Cond := k2_sels lw_privs ++ tables_1
theorem lw_privs_ok : ∀ q ∈ lw_privs, lw_okq q := by
  show ∀ q ∈ lw_privs_1 ++ (lw_privs_2 ++ (lw_privs_3)), lw_okq q
  exact List.forall_mem_append.mpr ⟨lw_r1, List.forall_mem_append.mpr ⟨lw_r2, lw_r3⟩⟩
-- ===== end of PART A; then your names; then what follows =====
end
section
def RX0 : String := "SleeplessVillage$Album"
def TX0 : u_T := fun k => match k with
  | 0 => ("SleeplessVillage$Album", "images", "[LSleeplessVillage$State;", true)
  | 1 => ("SleeplessVillage$Album", "seeds", "[I", true)
  | _ => ("SleeplessVillage$Album", "kept", "[Z", true)
def tyX0 : Nat → FieldType := fun k => match k with
  | 0 => .array (.object "SleeplessVillage$State")
  | 1 => .array .int
  | _ => .array .boolean
abbrev wsX00 : List Cond := u_ws RX0 TX0 3
theorem nmX0 : ∀ a, a < 3 → ∀ b, b < 3 → a ≠ b → (TX0 a).2.1 ≠ (TX0 b).2.1 := by decide +kernel
theorem tyX0_ok : ∀ k, k < 3 → parseFieldDescriptor (TX0 k).2.2.1 = some (tyX0 k) := by decide +kernel
abbrev cX0_init : ByteArray := prog_2_method_1_code
def yX0_init : MethodName := ⟨RX0, "<init>", "()V"⟩
abbrev cX0_clear : ByteArray := prog_2_method_2_code
def yX0_clear : MethodName := ⟨RX0, "clear", "()V"⟩
abbrev cX0_hasPlace : ByteArray := prog_2_method_3_code
def yX0_hasPlace : MethodName := ⟨RX0, "hasPlace", "(I)Z"⟩
abbrev cX0_store : ByteArray := prog_2_method_4_code
def yX0_store : MethodName := ⟨RX0, "store", "(ILSleeplessVillage$State;LSleeplessVillage$Draws;)V"⟩
abbrev cX0_load : ByteArray := prog_2_method_5_code
def yX0_load : MethodName := ⟨RX0, "load", "(ILSleeplessVillage$State;LSleeplessVillage$Draws;)Z"⟩
def RX1 : String := "SleeplessVillage$Book"
def TX1 : u_T := fun k => match k with
  | 0 => ("SleeplessVillage$Book", "count", "I", false)
  | 1 => ("SleeplessVillage$Book", "watchers", "[I", true)
  | _ => ("SleeplessVillage$Book", "tired", "[I", true)
def tyX1 : Nat → FieldType := fun k => match k with
  | 0 => .int
  | 1 => .array .int
  | _ => .array .int
abbrev wsX10 : List Cond := u_ws RX1 TX1 3
theorem nmX1 : ∀ a, a < 3 → ∀ b, b < 3 → a ≠ b → (TX1 a).2.1 ≠ (TX1 b).2.1 := by decide +kernel
theorem tyX1_ok : ∀ k, k < 3 → parseFieldDescriptor (TX1 k).2.2.1 = some (tyX1 k) := by decide +kernel
abbrev cX1_init : ByteArray := prog_3_method_1_code
def yX1_init : MethodName := ⟨RX1, "<init>", "()V"⟩
abbrev cX1_clear : ByteArray := prog_3_method_2_code
def yX1_clear : MethodName := ⟨RX1, "clear", "()V"⟩
abbrev cX1_append : ByteArray := prog_3_method_3_code
def yX1_append : MethodName := ⟨RX1, "append", "(II)Z"⟩
abbrev cX1_firstWrong : ByteArray := prog_3_method_4_code
def yX1_firstWrong : MethodName := ⟨RX1, "firstWrong", "(LSleeplessVillage$State;)I"⟩
def RX2 : String := "SleeplessVillage$Contract"
def TX2 : u_T := fun k => match k with
  | 0 => ("SleeplessVillage$Contract", "nightHours", "I", false)
  | 1 => ("SleeplessVillage$Contract", "wool", "I", false)
  | 2 => ("SleeplessVillage$Contract", "fine", "I", false)
  | 3 => ("SleeplessVillage$Contract", "bell", "I", false)
  | 4 => ("SleeplessVillage$Contract", "watchers", "I", false)
  | 5 => ("SleeplessVillage$Contract", "sleepers", "I", false)
  | 6 => ("SleeplessVillage$Contract", "tiredAtFirst", "[I", true)
  | 7 => ("SleeplessVillage$Contract", "more", "[I", true)
  | 8 => ("SleeplessVillage$Contract", "less", "[I", true)
  | 9 => ("SleeplessVillage$Contract", "limit", "[I", true)
  | _ => ("SleeplessVillage$Contract", "guards", "[I", true)
def tyX2 : Nat → FieldType := fun k => match k with
  | 0 => .int
  | 1 => .int
  | 2 => .int
  | 3 => .int
  | 4 => .int
  | 5 => .int
  | 6 => .array .int
  | 7 => .array .int
  | 8 => .array .int
  | 9 => .array .int
  | _ => .array .int
abbrev wsX20 : List Cond := u_ws RX2 TX2 11
theorem nmX2 : ∀ a, a < 11 → ∀ b, b < 11 → a ≠ b → (TX2 a).2.1 ≠ (TX2 b).2.1 := by decide +kernel
theorem tyX2_ok : ∀ k, k < 11 → parseFieldDescriptor (TX2 k).2.2.1 = some (tyX2 k) := by decide +kernel
abbrev cX2_init : ByteArray := prog_4_method_1_code
def yX2_init : MethodName := ⟨RX2, "<init>", "()V"⟩
abbrev cX2_clear : ByteArray := prog_4_method_2_code
def yX2_clear : MethodName := ⟨RX2, "clear", "()V"⟩
abbrev cX2_copyFrom : ByteArray := prog_4_method_3_code
def yX2_copyFrom : MethodName := ⟨RX2, "copyFrom", "(LSleeplessVillage$Contract;)V"⟩
abbrev cX2_stands : ByteArray := prog_4_method_4_code
def yX2_stands : MethodName := ⟨RX2, "stands", "()Z"⟩
abbrev cX2_hasWatcher : ByteArray := prog_4_method_5_code
def yX2_hasWatcher : MethodName := ⟨RX2, "hasWatcher", "(I)Z"⟩
abbrev cX2_hasSleeper : ByteArray := prog_4_method_6_code
def yX2_hasSleeper : MethodName := ⟨RX2, "hasSleeper", "(I)Z"⟩
abbrev cX2_everybody : ByteArray := prog_4_method_7_code
def yX2_everybody : MethodName := ⟨RX2, "everybody", "()I"⟩
abbrev cX2_hasAll : ByteArray := prog_4_method_8_code
def yX2_hasAll : MethodName := ⟨RX2, "hasAll", "(I)Z"⟩
abbrev cX2_addWatcher : ByteArray := prog_4_method_9_code
def yX2_addWatcher : MethodName := ⟨RX2, "addWatcher", "(IIII)V"⟩
abbrev cX2_addSleeper : ByteArray := prog_4_method_10_code
def yX2_addSleeper : MethodName := ⟨RX2, "addSleeper", "(I)V"⟩
abbrev cX2_spendHour : ByteArray := prog_4_method_11_code
def yX2_spendHour : MethodName := ⟨RX2, "spendHour", "([IIZ)I"⟩
abbrev cX2_sitsUp : ByteArray := prog_4_method_12_code
def yX2_sitsUp : MethodName := ⟨RX2, "sitsUp", "(III)Z"⟩
abbrev cX2_allSittingUp : ByteArray := prog_4_method_13_code
def yX2_allSittingUp : MethodName := ⟨RX2, "allSittingUp", "(II)I"⟩
def RX3 : String := "SleeplessVillage$Draws"
def TX3 : u_T := fun k => match k with
  | _ => ("SleeplessVillage$Draws", "value", "I", false)
def tyX3 : Nat → FieldType := fun k => match k with
  | _ => .int
abbrev wsX30 : List Cond := u_ws RX3 TX3 1
theorem nmX3 : ∀ a, a < 1 → ∀ b, b < 1 → a ≠ b → (TX3 a).2.1 ≠ (TX3 b).2.1 := by decide +kernel
theorem tyX3_ok : ∀ k, k < 1 → parseFieldDescriptor (TX3 k).2.2.1 = some (tyX3 k) := by decide +kernel
abbrev cX3_init : ByteArray := prog_5_method_1_code
def yX3_init : MethodName := ⟨RX3, "<init>", "()V"⟩
abbrev cX3_draw : ByteArray := prog_5_method_2_code
def yX3_draw : MethodName := ⟨RX3, "draw", "(I)I"⟩
def RX4 : String := "SleeplessVillage$History"
def TX4 : u_T := fun k => match k with
  | 0 => ("SleeplessVillage$History", "count", "I", false)
  | 1 => ("SleeplessVillage$History", "next", "I", false)
  | _ => ("SleeplessVillage$History", "past", "[LSleeplessVillage$State;", true)
def tyX4 : Nat → FieldType := fun k => match k with
  | 0 => .int
  | 1 => .int
  | _ => .array (.object "SleeplessVillage$State")
abbrev wsX40 : List Cond := u_ws RX4 TX4 3
theorem nmX4 : ∀ a, a < 3 → ∀ b, b < 3 → a ≠ b → (TX4 a).2.1 ≠ (TX4 b).2.1 := by decide +kernel
theorem tyX4_ok : ∀ k, k < 3 → parseFieldDescriptor (TX4 k).2.2.1 = some (tyX4 k) := by decide +kernel
abbrev cX4_init : ByteArray := prog_6_method_1_code
def yX4_init : MethodName := ⟨RX4, "<init>", "()V"⟩
abbrev cX4_clear : ByteArray := prog_6_method_2_code
def yX4_clear : MethodName := ⟨RX4, "clear", "()V"⟩
abbrev cX4_remember : ByteArray := prog_6_method_3_code
def yX4_remember : MethodName := ⟨RX4, "remember", "(LSleeplessVillage$State;)V"⟩
abbrev cX4_recall : ByteArray := prog_6_method_4_code
def yX4_recall : MethodName := ⟨RX4, "recall", "(LSleeplessVillage$State;)Z"⟩
def RX5 : String := "SleeplessVillage$Reader"
def TX5 : u_T := fun k => match k with
  | 0 => ("SleeplessVillage$Reader", "draft", "LSleeplessVillage$Contract;", true)
  | 1 => ("SleeplessVillage$Reader", "length", "I", false)
  | 2 => ("SleeplessVillage$Reader", "faultPlace", "I", false)
  | 3 => ("SleeplessVillage$Reader", "letters", "[I", true)
  | 4 => ("SleeplessVillage$Reader", "place", "I", false)
  | _ => ("SleeplessVillage$Reader", "faultKind", "I", false)
def tyX5 : Nat → FieldType := fun k => match k with
  | 0 => .object "SleeplessVillage$Contract"
  | 1 => .int
  | 2 => .int
  | 3 => .array .int
  | 4 => .int
  | _ => .int
abbrev wsX50 : List Cond := u_ws RX5 TX5 6
theorem nmX5 : ∀ a, a < 6 → ∀ b, b < 6 → a ≠ b → (TX5 a).2.1 ≠ (TX5 b).2.1 := by decide +kernel
theorem tyX5_ok : ∀ k, k < 6 → parseFieldDescriptor (TX5 k).2.2.1 = some (tyX5 k) := by decide +kernel
abbrev cX5_init : ByteArray := prog_7_method_1_code
def yX5_init : MethodName := ⟨RX5, "<init>", "()V"⟩
abbrev cX5_append : ByteArray := prog_7_method_2_code
def yX5_append : MethodName := ⟨RX5, "append", "(I)Z"⟩
abbrev cX5_readText : ByteArray := prog_7_method_3_code
def yX5_readText : MethodName := ⟨RX5, "readText", "()I"⟩
abbrev cX5_readClause : ByteArray := prog_7_method_4_code
def yX5_readClause : MethodName := ⟨RX5, "readClause", "()V"⟩
abbrev cX5_faultOfWord : ByteArray := prog_7_method_5_code
def yX5_faultOfWord : MethodName := ⟨RX5, "faultOfWord", "(I)I"⟩
abbrev cX5_readNight : ByteArray := prog_7_method_6_code
def yX5_readNight : MethodName := ⟨RX5, "readNight", "()V"⟩
abbrev cX5_readWatcher : ByteArray := prog_7_method_7_code
def yX5_readWatcher : MethodName := ⟨RX5, "readWatcher", "()V"⟩
abbrev cX5_readSleeper : ByteArray := prog_7_method_8_code
def yX5_readSleeper : MethodName := ⟨RX5, "readSleeper", "()V"⟩
abbrev cX5_readNumber : ByteArray := prog_7_method_9_code
def yX5_readNumber : MethodName := ⟨RX5, "readNumber", "(II)I"⟩
abbrev cX5_readEnd : ByteArray := prog_7_method_10_code
def yX5_readEnd : MethodName := ⟨RX5, "readEnd", "()V"⟩
abbrev cX5_skipBlanks : ByteArray := prog_7_method_11_code
def yX5_skipBlanks : MethodName := ⟨RX5, "skipBlanks", "()V"⟩
abbrev cX5_letterHere : ByteArray := prog_7_method_12_code
def yX5_letterHere : MethodName := ⟨RX5, "letterHere", "()I"⟩
abbrev cX5_blame : ByteArray := prog_7_method_13_code
def yX5_blame : MethodName := ⟨RX5, "blame", "(II)V"⟩
abbrev cX5_isFigure : ByteArray := prog_7_method_14_code
def yX5_isFigure : MethodName := ⟨RX5, "isFigure", "(I)Z"⟩
def RX6 : String := "SleeplessVillage$Seen"
def TX6 : u_T := fun k => match k with
  | 0 => ("SleeplessVillage$Seen", "count", "I", false)
  | 1 => ("SleeplessVillage$Seen", "sleepers", "[I", true)
  | _ => ("SleeplessVillage$Seen", "sitting", "[Z", true)
def tyX6 : Nat → FieldType := fun k => match k with
  | 0 => .int
  | 1 => .array .int
  | _ => .array .boolean
abbrev wsX60 : List Cond := u_ws RX6 TX6 3
theorem nmX6 : ∀ a, a < 3 → ∀ b, b < 3 → a ≠ b → (TX6 a).2.1 ≠ (TX6 b).2.1 := by decide +kernel
theorem tyX6_ok : ∀ k, k < 3 → parseFieldDescriptor (TX6 k).2.2.1 = some (tyX6 k) := by decide +kernel
abbrev cX6_init : ByteArray := prog_8_method_1_code
def yX6_init : MethodName := ⟨RX6, "<init>", "()V"⟩
abbrev cX6_clear : ByteArray := prog_8_method_2_code
def yX6_clear : MethodName := ⟨RX6, "clear", "()V"⟩
abbrev cX6_append : ByteArray := prog_8_method_3_code
def yX6_append : MethodName := ⟨RX6, "append", "(IZ)Z"⟩
abbrev cX6_fits : ByteArray := prog_8_method_4_code
def yX6_fits : MethodName := ⟨RX6, "fits", "(LSleeplessVillage$Contract;II)Z"⟩
abbrev cX6_countFitting : ByteArray := prog_8_method_5_code
def yX6_countFitting : MethodName := ⟨RX6, "countFitting", "(LSleeplessVillage$Contract;I)I"⟩
abbrev cX6_inAllFitting : ByteArray := prog_8_method_6_code
def yX6_inAllFitting : MethodName := ⟨RX6, "inAllFitting", "(LSleeplessVillage$Contract;I)I"⟩
abbrev cX6_fittingAt : ByteArray := prog_8_method_7_code
def yX6_fittingAt : MethodName := ⟨RX6, "fittingAt", "(LSleeplessVillage$Contract;II)I"⟩
abbrev cX6_bestToAsk : ByteArray := prog_8_method_8_code
def yX6_bestToAsk : MethodName := ⟨RX6, "bestToAsk", "(LSleeplessVillage$Contract;I)I"⟩
abbrev cX6_greaterPart : ByteArray := prog_8_method_9_code
def yX6_greaterPart : MethodName := ⟨RX6, "greaterPart", "(LSleeplessVillage$Contract;II)I"⟩
def RX7 : String := "SleeplessVillage$State"
def TX7 : u_T := fun k => match k with
  | 0 => ("SleeplessVillage$State", "hours", "I", false)
  | 1 => ("SleeplessVillage$State", "wool", "I", false)
  | 2 => ("SleeplessVillage$State", "fines", "I", false)
  | 3 => ("SleeplessVillage$State", "nods", "I", false)
  | 4 => ("SleeplessVillage$State", "satUp", "I", false)
  | 5 => ("SleeplessVillage$State", "unwatched", "I", false)
  | 6 => ("SleeplessVillage$State", "hadCoffee", "I", false)
  | 7 => ("SleeplessVillage$State", "tired", "[I", true)
  | _ => ("SleeplessVillage$State", "awake", "[I", true)
def tyX7 : Nat → FieldType := fun k => match k with
  | 0 => .int
  | 1 => .int
  | 2 => .int
  | 3 => .int
  | 4 => .int
  | 5 => .int
  | 6 => .int
  | 7 => .array .int
  | _ => .array .int
abbrev wsX70 : List Cond := u_ws RX7 TX7 9
theorem nmX7 : ∀ a, a < 9 → ∀ b, b < 9 → a ≠ b → (TX7 a).2.1 ≠ (TX7 b).2.1 := by decide +kernel
theorem tyX7_ok : ∀ k, k < 9 → parseFieldDescriptor (TX7 k).2.2.1 = some (tyX7 k) := by decide +kernel
abbrev cX7_init : ByteArray := prog_9_method_1_code
def yX7_init : MethodName := ⟨RX7, "<init>", "()V"⟩
abbrev cX7_begin : ByteArray := prog_9_method_2_code
def yX7_begin : MethodName := ⟨RX7, "begin", "(LSleeplessVillage$Contract;)V"⟩
abbrev cX7_copyFrom : ByteArray := prog_9_method_3_code
def yX7_copyFrom : MethodName := ⟨RX7, "copyFrom", "(LSleeplessVillage$State;)V"⟩
abbrev cX7_passWatched : ByteArray := prog_9_method_4_code
def yX7_passWatched : MethodName := ⟨RX7, "passWatched", "(LSleeplessVillage$Contract;IZ)V"⟩
abbrev cX7_passResting : ByteArray := prog_9_method_5_code
def yX7_passResting : MethodName := ⟨RX7, "passResting", "(LSleeplessVillage$Contract;)V"⟩
abbrev cX7_endHour : ByteArray := prog_9_method_6_code
def yX7_endHour : MethodName := ⟨RX7, "endHour", "(LSleeplessVillage$Contract;)V"⟩
abbrev cX7_partOf : ByteArray := prog_9_method_7_code
def yX7_partOf : MethodName := ⟨RX7, "partOf", "(II)I"⟩
def RX8 : String := "SleeplessVillage$Trial"
def TX8 : u_T := fun k => match k with
  | 0 => ("SleeplessVillage$Trial", "bestWatches", "[I", true)
  | 1 => ("SleeplessVillage$Trial", "leastEnd", "I", false)
  | 2 => ("SleeplessVillage$Trial", "rows", "[[I", true)
  | 3 => ("SleeplessVillage$Trial", "chosen", "[I", true)
  | _ => ("SleeplessVillage$Trial", "awakeInHour", "[I", true)
def tyX8 : Nat → FieldType := fun k => match k with
  | 0 => .array .int
  | 1 => .int
  | 2 => .array (.array .int)
  | 3 => .array .int
  | _ => .array .int
abbrev wsX80 : List Cond := u_ws RX8 TX8 5
theorem nmX8 : ∀ a, a < 5 → ∀ b, b < 5 → a ≠ b → (TX8 a).2.1 ≠ (TX8 b).2.1 := by decide +kernel
theorem tyX8_ok : ∀ k, k < 5 → parseFieldDescriptor (TX8 k).2.2.1 = some (tyX8 k) := by decide +kernel
abbrev cX8_init : ByteArray := prog_10_method_1_code
def yX8_init : MethodName := ⟨RX8, "<init>", "()V"⟩
abbrev cX8_layRow : ByteArray := prog_10_method_2_code
def yX8_layRow : MethodName := ⟨RX8, "layRow", "(LSleeplessVillage$State;)V"⟩
abbrev cX8_findWatches : ByteArray := prog_10_method_3_code
def yX8_findWatches : MethodName := ⟨RX8, "findWatches", "(LSleeplessVillage$Contract;LSleeplessVillage$State;)Z"⟩
abbrev cX8_chooseFrom : ByteArray := prog_10_method_4_code
def yX8_chooseFrom : MethodName := ⟨RX8, "chooseFrom", "(LSleeplessVillage$Contract;I)V"⟩
abbrev cX8_leastPossibleEnd : ByteArray := prog_10_method_5_code
def yX8_leastPossibleEnd : MethodName := ⟨RX8, "leastPossibleEnd", "(LSleeplessVillage$Contract;[II)I"⟩
abbrev cX8_takeChosen : ByteArray := prog_10_method_6_code
def yX8_takeChosen : MethodName := ⟨RX8, "takeChosen", "(I)V"⟩
abbrev cX8_nodsWithBell : ByteArray := prog_10_method_7_code
def yX8_nodsWithBell : MethodName := ⟨RX8, "nodsWithBell", "(LSleeplessVillage$Contract;LSleeplessVillage$State;I)I"⟩
abbrev cX8_nodsWithCoffee : ByteArray := prog_10_method_8_code
def yX8_nodsWithCoffee : MethodName := ⟨RX8, "nodsWithCoffee", "(LSleeplessVillage$Contract;LSleeplessVillage$State;I)I"⟩
abbrev cX8_nodsOfAll : ByteArray := prog_10_method_9_code
def yX8_nodsOfAll : MethodName := ⟨RX8, "nodsOfAll", "(LSleeplessVillage$Contract;I)I"⟩
abbrev cX8_nightsOf : ByteArray := prog_10_method_10_code
def yX8_nightsOf : MethodName := ⟨RX8, "nightsOf", "(LSleeplessVillage$Contract;LSleeplessVillage$State;I)I"⟩
abbrev cX8_fewestHolding : ByteArray := prog_10_method_11_code
def yX8_fewestHolding : MethodName := ⟨RX8, "fewestHolding", "(LSleeplessVillage$Contract;LSleeplessVillage$State;)I"⟩
abbrev cX8_holds : ByteArray := prog_10_method_12_code
def yX8_holds : MethodName := ⟨RX8, "holds", "(LSleeplessVillage$Contract;I)Z"⟩
def RX9 : String := "SleeplessVillage"
def TX9 : u_T := fun k => match k with
  | 0 => ("SleeplessVillage", "reader", "LSleeplessVillage$Reader;", true)
  | 1 => ("SleeplessVillage", "terms", "LSleeplessVillage$Contract;", true)
  | 2 => ("SleeplessVillage", "now", "LSleeplessVillage$State;", true)
  | 3 => ("SleeplessVillage", "history", "LSleeplessVillage$History;", true)
  | 4 => ("SleeplessVillage", "album", "LSleeplessVillage$Album;", true)
  | 5 => ("SleeplessVillage", "draws", "LSleeplessVillage$Draws;", true)
  | 6 => ("SleeplessVillage", "trial", "LSleeplessVillage$Trial;", true)
  | 7 => ("SleeplessVillage", "seen", "LSleeplessVillage$Seen;", true)
  | _ => ("SleeplessVillage", "book", "LSleeplessVillage$Book;", true)
def tyX9 : Nat → FieldType := fun k => match k with
  | 0 => .object "SleeplessVillage$Reader"
  | 1 => .object "SleeplessVillage$Contract"
  | 2 => .object "SleeplessVillage$State"
  | 3 => .object "SleeplessVillage$History"
  | 4 => .object "SleeplessVillage$Album"
  | 5 => .object "SleeplessVillage$Draws"
  | 6 => .object "SleeplessVillage$Trial"
  | 7 => .object "SleeplessVillage$Seen"
  | _ => .object "SleeplessVillage$Book"
abbrev wsX90 : List Cond := u_ws RX9 TX9 9
theorem nmX9 : ∀ a, a < 9 → ∀ b, b < 9 → a ≠ b → (TX9 a).2.1 ≠ (TX9 b).2.1 := by decide +kernel
theorem tyX9_ok : ∀ k, k < 9 → parseFieldDescriptor (TX9 k).2.2.1 = some (tyX9 k) := by decide +kernel
abbrev cX9_init : ByteArray := prog_1_method_1_code
def yX9_init : MethodName := ⟨RX9, "<init>", "()V"⟩
abbrev cX9_feed : ByteArray := prog_1_method_2_code
def yX9_feed : MethodName := ⟨RX9, "feed", "(I)I"⟩
abbrev cX9_contract : ByteArray := prog_1_method_3_code
def yX9_contract : MethodName := ⟨RX9, "contract", "()I"⟩
abbrev cX9_fault : ByteArray := prog_1_method_4_code
def yX9_fault : MethodName := ⟨RX9, "fault", "()I"⟩
abbrev cX9_told : ByteArray := prog_1_method_5_code
def yX9_told : MethodName := ⟨RX9, "told", "(I)I"⟩
abbrev cX9_watcher : ByteArray := prog_1_method_6_code
def yX9_watcher : MethodName := ⟨RX9, "watcher", "(II)I"⟩
abbrev cX9_sleeper : ByteArray := prog_1_method_7_code
def yX9_sleeper : MethodName := ⟨RX9, "sleeper", "(I)I"⟩
abbrev cX9_hour : ByteArray := prog_1_method_8_code
def yX9_hour : MethodName := ⟨RX9, "hour", "(IZ)I"⟩
abbrev cX9_coffee : ByteArray := prog_1_method_9_code
def yX9_coffee : MethodName := ⟨RX9, "coffee", "(I)I"⟩
abbrev cX9_rest : ByteArray := prog_1_method_10_code
def yX9_rest : MethodName := ⟨RX9, "rest", "(I)I"⟩
abbrev cX9_drift : ByteArray := prog_1_method_11_code
def yX9_drift : MethodName := ⟨RX9, "drift", "(I)I"⟩
abbrev cX9_undo : ByteArray := prog_1_method_12_code
def yX9_undo : MethodName := ⟨RX9, "undo", "()I"⟩
abbrev cX9_watches : ByteArray := prog_1_method_13_code
def yX9_watches : MethodName := ⟨RX9, "watches", "(I)I"⟩
abbrev cX9_bellHour : ByteArray := prog_1_method_14_code
def yX9_bellHour : MethodName := ⟨RX9, "bellHour", "(I)I"⟩
abbrev cX9_coffeeFor : ByteArray := prog_1_method_15_code
def yX9_coffeeFor : MethodName := ⟨RX9, "coffeeFor", "()I"⟩
abbrev cX9_nights : ByteArray := prog_1_method_16_code
def yX9_nights : MethodName := ⟨RX9, "nights", "(I)I"⟩
abbrev cX9_hold : ByteArray := prog_1_method_17_code
def yX9_hold : MethodName := ⟨RX9, "hold", "()I"⟩
abbrev cX9_share : ByteArray := prog_1_method_18_code
def yX9_share : MethodName := ⟨RX9, "share", "(I)I"⟩
abbrev cX9_paid : ByteArray := prog_1_method_19_code
def yX9_paid : MethodName := ⟨RX9, "paid", "(I)I"⟩
abbrev cX9_blink : ByteArray := prog_1_method_20_code
def yX9_blink : MethodName := ⟨RX9, "blink", "(III)I"⟩
abbrev cX9_see : ByteArray := prog_1_method_21_code
def yX9_see : MethodName := ⟨RX9, "see", "(IZ)I"⟩
abbrev cX9_nodded : ByteArray := prog_1_method_22_code
def yX9_nodded : MethodName := ⟨RX9, "nodded", "(II)I"⟩
abbrev cX9_askNext : ByteArray := prog_1_method_23_code
def yX9_askNext : MethodName := ⟨RX9, "askNext", "(I)I"⟩
abbrev cX9_write : ByteArray := prog_1_method_24_code
def yX9_write : MethodName := ⟨RX9, "write", "(II)I"⟩
abbrev cX9_tear : ByteArray := prog_1_method_25_code
def yX9_tear : MethodName := ⟨RX9, "tear", "()I"⟩
abbrev cX9_judge : ByteArray := prog_1_method_26_code
def yX9_judge : MethodName := ⟨RX9, "judge", "()I"⟩
abbrev cX9_seed : ByteArray := prog_1_method_27_code
def yX9_seed : MethodName := ⟨RX9, "seed", "(I)I"⟩
abbrev cX9_keep : ByteArray := prog_1_method_28_code
def yX9_keep : MethodName := ⟨RX9, "keep", "(I)I"⟩
abbrev cX9_goBack : ByteArray := prog_1_method_29_code
def yX9_goBack : MethodName := ⟨RX9, "goBack", "(I)I"⟩
abbrev cX9_refusalOfHours : ByteArray := prog_1_method_30_code
def yX9_refusalOfHours : MethodName := ⟨RX9, "refusalOfHours", "(I)I"⟩
abbrev cX9_afterCoffee : ByteArray := prog_1_method_31_code
def yX9_afterCoffee : MethodName := ⟨RX9, "afterCoffee", "(I)I"⟩
def RX10 : String := "SleeplessVillageModel"
def TX10 : u_T := fun k => match k with
  | 0 => ("SleeplessVillageModel", "hours", "I", false)
  | 1 => ("SleeplessVillageModel", "wool", "I", false)
  | 2 => ("SleeplessVillageModel", "fine", "I", false)
  | 3 => ("SleeplessVillageModel", "bell", "I", false)
  | 4 => ("SleeplessVillageModel", "watchers", "I", false)
  | 5 => ("SleeplessVillageModel", "more", "[I", true)
  | 6 => ("SleeplessVillageModel", "less", "[I", true)
  | 7 => ("SleeplessVillageModel", "nods", "[I", true)
  | 8 => ("SleeplessVillageModel", "sleepers", "I", false)
  | 9 => ("SleeplessVillageModel", "guards", "[I", true)
  | 10 => ("SleeplessVillageModel", "now", "[I", true)
  | 11 => ("SleeplessVillageModel", "seed", "I", false)
  | 12 => ("SleeplessVillageModel", "text", "[I", true)
  | 13 => ("SleeplessVillageModel", "texted", "I", false)
  | 14 => ("SleeplessVillageModel", "faultPlace", "I", false)
  | 15 => ("SleeplessVillageModel", "at0", "I", false)
  | 16 => ("SleeplessVillageModel", "number", "I", false)
  | 17 => ("SleeplessVillageModel", "numberAt", "I", false)
  | 18 => ("SleeplessVillageModel", "readContract", "[I", true)
  | 19 => ("SleeplessVillageModel", "readWatchers", "I", false)
  | 20 => ("SleeplessVillageModel", "readTired", "[I", true)
  | 21 => ("SleeplessVillageModel", "readMore", "[I", true)
  | 22 => ("SleeplessVillageModel", "readLess", "[I", true)
  | 23 => ("SleeplessVillageModel", "readNods", "[I", true)
  | 24 => ("SleeplessVillageModel", "readSleepers", "I", false)
  | 25 => ("SleeplessVillageModel", "readGuards", "[I", true)
  | 26 => ("SleeplessVillageModel", "undos", "I", false)
  | 27 => ("SleeplessVillageModel", "past", "[I", true)
  | 28 => ("SleeplessVillageModel", "was", "[I", true)
  | 29 => ("SleeplessVillageModel", "row", "[I", true)
  | 30 => ("SleeplessVillageModel", "bestRow", "[I", true)
  | 31 => ("SleeplessVillageModel", "leastTired", "I", false)
  | 32 => ("SleeplessVillageModel", "seen", "I", false)
  | 33 => ("SleeplessVillageModel", "seenWho", "[I", true)
  | 34 => ("SleeplessVillageModel", "seenUp", "[Z", true)
  | 35 => ("SleeplessVillageModel", "booked", "I", false)
  | 36 => ("SleeplessVillageModel", "bookWho", "[I", true)
  | 37 => ("SleeplessVillageModel", "bookTired", "[I", true)
  | 38 => ("SleeplessVillageModel", "images", "[I", true)
  | _ => ("SleeplessVillageModel", "isKept", "[Z", true)
def tyX10 : Nat → FieldType := fun k => match k with
  | 0 => .int
  | 1 => .int
  | 2 => .int
  | 3 => .int
  | 4 => .int
  | 5 => .array .int
  | 6 => .array .int
  | 7 => .array .int
  | 8 => .int
  | 9 => .array .int
  | 10 => .array .int
  | 11 => .int
  | 12 => .array .int
  | 13 => .int
  | 14 => .int
  | 15 => .int
  | 16 => .int
  | 17 => .int
  | 18 => .array .int
  | 19 => .int
  | 20 => .array .int
  | 21 => .array .int
  | 22 => .array .int
  | 23 => .array .int
  | 24 => .int
  | 25 => .array .int
  | 26 => .int
  | 27 => .array .int
  | 28 => .array .int
  | 29 => .array .int
  | 30 => .array .int
  | 31 => .int
  | 32 => .int
  | 33 => .array .int
  | 34 => .array .boolean
  | 35 => .int
  | 36 => .array .int
  | 37 => .array .int
  | 38 => .array .int
  | _ => .array .boolean
abbrev wsX100 : List Cond := u_ws RX10 TX10 40
theorem nmX10 : ∀ a, a < 40 → ∀ b, b < 40 → a ≠ b → (TX10 a).2.1 ≠ (TX10 b).2.1 := by decide +kernel
theorem tyX10_ok : ∀ k, k < 40 → parseFieldDescriptor (TX10 k).2.2.1 = some (tyX10 k) := by decide +kernel
abbrev cX10_init : ByteArray := prog_12_method_1_code
def yX10_init : MethodName := ⟨RX10, "<init>", "()V"⟩
abbrev cX10_in : ByteArray := prog_12_method_3_code
def yX10_in : MethodName := ⟨RX10, "in", "(JJJ)Z"⟩
abbrev cX10_has : ByteArray := prog_12_method_4_code
def yX10_has : MethodName := ⟨RX10, "has", "(II)Z"⟩
abbrev cX10_bits : ByteArray := prog_12_method_5_code
def yX10_bits : MethodName := ⟨RX10, "bits", "(I)I"⟩
abbrev cX10_atMost : ByteArray := prog_12_method_6_code
def yX10_atMost : MethodName := ⟨RX10, "atMost", "(II)I"⟩
abbrev cX10_atLeast : ByteArray := prog_12_method_7_code
def yX10_atLeast : MethodName := ⟨RX10, "atLeast", "(II)I"⟩
abbrev cX10_isWatcher : ByteArray := prog_12_method_8_code
def yX10_isWatcher : MethodName := ⟨RX10, "isWatcher", "(I)Z"⟩
abbrev cX10_isSleeper : ByteArray := prog_12_method_9_code
def yX10_isSleeper : MethodName := ⟨RX10, "isSleeper", "(I)Z"⟩
abbrev cX10_isSet : ByteArray := prog_12_method_10_code
def yX10_isSet : MethodName := ⟨RX10, "isSet", "(I)Z"⟩
abbrev cX10_feed : ByteArray := prog_12_method_11_code
def yX10_feed : MethodName := ⟨RX10, "feed", "(I)I"⟩
abbrev cX10_here : ByteArray := prog_12_method_12_code
def yX10_here : MethodName := ⟨RX10, "here", "()I"⟩
abbrev cX10_fails : ByteArray := prog_12_method_13_code
def yX10_fails : MethodName := ⟨RX10, "fails", "(II)I"⟩
abbrev cX10_takeNumber : ByteArray := prog_12_method_14_code
def yX10_takeNumber : MethodName := ⟨RX10, "takeNumber", "(II)I"⟩
abbrev cX10_into : ByteArray := prog_12_method_15_code
def yX10_into : MethodName := ⟨RX10, "into", "([IIII)I"⟩
abbrev cX10_takeContract : ByteArray := prog_12_method_16_code
def yX10_takeContract : MethodName := ⟨RX10, "takeContract", "()I"⟩
abbrev cX10_takeWatcher : ByteArray := prog_12_method_17_code
def yX10_takeWatcher : MethodName := ⟨RX10, "takeWatcher", "()I"⟩
abbrev cX10_takeSleeper : ByteArray := prog_12_method_18_code
def yX10_takeSleeper : MethodName := ⟨RX10, "takeSleeper", "()I"⟩
abbrev cX10_takeClause : ByteArray := prog_12_method_19_code
def yX10_takeClause : MethodName := ⟨RX10, "takeClause", "()I"⟩
abbrev cX10_takeRead : ByteArray := prog_12_method_20_code
def yX10_takeRead : MethodName := ⟨RX10, "takeRead", "()V"⟩
abbrev cX10_contract : ByteArray := prog_12_method_21_code
def yX10_contract : MethodName := ⟨RX10, "contract", "()I"⟩
abbrev cX10_fault : ByteArray := prog_12_method_22_code
def yX10_fault : MethodName := ⟨RX10, "fault", "()I"⟩
abbrev cX10_told : ByteArray := prog_12_method_23_code
def yX10_told : MethodName := ⟨RX10, "told", "(I)I"⟩
abbrev cX10_watcher : ByteArray := prog_12_method_24_code
def yX10_watcher : MethodName := ⟨RX10, "watcher", "(II)I"⟩
abbrev cX10_sleeper : ByteArray := prog_12_method_25_code
def yX10_sleeper : MethodName := ⟨RX10, "sleeper", "(I)I"⟩
abbrev cX10_tire : ByteArray := prog_12_method_26_code
def yX10_tire : MethodName := ⟨RX10, "tire", "(IZ)I"⟩
abbrev cX10_sitsUp : ByteArray := prog_12_method_27_code
def yX10_sitsUp : MethodName := ⟨RX10, "sitsUp", "(III)Z"⟩
abbrev cX10_passHour : ByteArray := prog_12_method_28_code
def yX10_passHour : MethodName := ⟨RX10, "passHour", "()V"⟩
abbrev cX10_hourBy : ByteArray := prog_12_method_29_code
def yX10_hourBy : MethodName := ⟨RX10, "hourBy", "(IZ)V"⟩
abbrev cX10_remember : ByteArray := prog_12_method_30_code
def yX10_remember : MethodName := ⟨RX10, "remember", "()V"⟩
abbrev cX10_hour : ByteArray := prog_12_method_31_code
def yX10_hour : MethodName := ⟨RX10, "hour", "(IZ)I"⟩
abbrev cX10_coffee : ByteArray := prog_12_method_32_code
def yX10_coffee : MethodName := ⟨RX10, "coffee", "(I)I"⟩
abbrev cX10_hoursRefused : ByteArray := prog_12_method_33_code
def yX10_hoursRefused : MethodName := ⟨RX10, "hoursRefused", "(I)I"⟩
abbrev cX10_rest : ByteArray := prog_12_method_34_code
def yX10_rest : MethodName := ⟨RX10, "rest", "(I)I"⟩
abbrev cX10_draw : ByteArray := prog_12_method_35_code
def yX10_draw : MethodName := ⟨RX10, "draw", "(I)I"⟩
abbrev cX10_drift : ByteArray := prog_12_method_36_code
def yX10_drift : MethodName := ⟨RX10, "drift", "(I)I"⟩
abbrev cX10_undo : ByteArray := prog_12_method_37_code
def yX10_undo : MethodName := ⟨RX10, "undo", "()I"⟩
abbrev cX10_save : ByteArray := prog_12_method_38_code
def yX10_save : MethodName := ⟨RX10, "save", "()V"⟩
abbrev cX10_putBack : ByteArray := prog_12_method_39_code
def yX10_putBack : MethodName := ⟨RX10, "putBack", "()V"⟩
abbrev cX10_behindRow : ByteArray := prog_12_method_40_code
def yX10_behindRow : MethodName := ⟨RX10, "behindRow", "()I"⟩
abbrev cX10_nextRow : ByteArray := prog_12_method_41_code
def yX10_nextRow : MethodName := ⟨RX10, "nextRow", "()Z"⟩
abbrev cX10_findWatches : ByteArray := prog_12_method_42_code
def yX10_findWatches : MethodName := ⟨RX10, "findWatches", "()V"⟩
abbrev cX10_watches : ByteArray := prog_12_method_43_code
def yX10_watches : MethodName := ⟨RX10, "watches", "(I)I"⟩
abbrev cX10_nodsOfAll : ByteArray := prog_12_method_44_code
def yX10_nodsOfAll : MethodName := ⟨RX10, "nodsOfAll", "(I)I"⟩
abbrev cX10_bellHour : ByteArray := prog_12_method_45_code
def yX10_bellHour : MethodName := ⟨RX10, "bellHour", "(I)I"⟩
abbrev cX10_coffeeFor : ByteArray := prog_12_method_46_code
def yX10_coffeeFor : MethodName := ⟨RX10, "coffeeFor", "()I"⟩
abbrev cX10_nights : ByteArray := prog_12_method_47_code
def yX10_nights : MethodName := ⟨RX10, "nights", "(I)I"⟩
abbrev cX10_holds : ByteArray := prog_12_method_48_code
def yX10_holds : MethodName := ⟨RX10, "holds", "(I)Z"⟩
abbrev cX10_hold : ByteArray := prog_12_method_49_code
def yX10_hold : MethodName := ⟨RX10, "hold", "()I"⟩
abbrev cX10_allHours : ByteArray := prog_12_method_50_code
def yX10_allHours : MethodName := ⟨RX10, "allHours", "()I"⟩
abbrev cX10_share : ByteArray := prog_12_method_51_code
def yX10_share : MethodName := ⟨RX10, "share", "(I)I"⟩
abbrev cX10_paid : ByteArray := prog_12_method_52_code
def yX10_paid : MethodName := ⟨RX10, "paid", "(I)I"⟩
abbrev cX10_blink : ByteArray := prog_12_method_53_code
def yX10_blink : MethodName := ⟨RX10, "blink", "(III)I"⟩
abbrev cX10_see : ByteArray := prog_12_method_54_code
def yX10_see : MethodName := ⟨RX10, "see", "(IZ)I"⟩
abbrev cX10_couldNod : ByteArray := prog_12_method_55_code
def yX10_couldNod : MethodName := ⟨RX10, "couldNod", "(II)Z"⟩
abbrev cX10_sureOf : ByteArray := prog_12_method_56_code
def yX10_sureOf : MethodName := ⟨RX10, "sureOf", "(I)I"⟩
abbrev cX10_nodded : ByteArray := prog_12_method_57_code
def yX10_nodded : MethodName := ⟨RX10, "nodded", "(II)I"⟩
abbrev cX10_askNext : ByteArray := prog_12_method_58_code
def yX10_askNext : MethodName := ⟨RX10, "askNext", "(I)I"⟩
abbrev cX10_write : ByteArray := prog_12_method_59_code
def yX10_write : MethodName := ⟨RX10, "write", "(II)I"⟩
abbrev cX10_tear : ByteArray := prog_12_method_60_code
def yX10_tear : MethodName := ⟨RX10, "tear", "()I"⟩
abbrev cX10_judge : ByteArray := prog_12_method_61_code
def yX10_judge : MethodName := ⟨RX10, "judge", "()I"⟩
abbrev cX10_seed : ByteArray := prog_12_method_62_code
def yX10_seed : MethodName := ⟨RX10, "seed", "(I)I"⟩
abbrev cX10_keep : ByteArray := prog_12_method_63_code
def yX10_keep : MethodName := ⟨RX10, "keep", "(I)I"⟩
abbrev cX10_goBack : ByteArray := prog_12_method_64_code
def yX10_goBack : MethodName := ⟨RX10, "goBack", "(I)I"⟩
def RJ6 : String := "java/lang/Integer"
def TJ6 : u_T := fun k => match k with
  | _ => ("", "", "", false)
def tyJ6 : Nat → FieldType := fun k => match k with
  | _ => .int
abbrev wsJ60 : List Cond := u_ws RJ6 TJ6 0
theorem nmJ6 : ∀ a, a < 0 → ∀ b, b < 0 → a ≠ b → (TJ6 a).2.1 ≠ (TJ6 b).2.1 := by decide +kernel
theorem tyJ6_ok : ∀ k, k < 0 → parseFieldDescriptor (TJ6 k).2.2.1 = some (tyJ6 k) := by decide +kernel
abbrev cJ6_bitCount_0f7a4 : ByteArray := prog_13_method_49_code
def yJ6_bitCount_0f7a4 : MethodName := ⟨RJ6, "bitCount", "(I)I"⟩
def RJ9 : String := "java/lang/Math"
def TJ9 : u_T := fun k => match k with
  | _ => ("", "", "", false)
def tyJ9 : Nat → FieldType := fun k => match k with
  | _ => .int
abbrev wsJ90 : List Cond := u_ws RJ9 TJ9 0
theorem nmJ9 : ∀ a, a < 0 → ∀ b, b < 0 → a ≠ b → (TJ9 a).2.1 ≠ (TJ9 b).2.1 := by decide +kernel
theorem tyJ9_ok : ∀ k, k < 0 → parseFieldDescriptor (TJ9 k).2.2.1 = some (tyJ9 k) := by decide +kernel
abbrev cJ9_max_7cf53 : ByteArray := prog_14_method_65_code
def yJ9_max_7cf53 : MethodName := ⟨RJ9, "max", "(II)I"⟩
abbrev cJ9_min_7cf53 : ByteArray := prog_14_method_69_code
def yJ9_min_7cf53 : MethodName := ⟨RJ9, "min", "(II)I"⟩
def RJ10 : String := "java/lang/System"
def TJ10 : u_T := fun k => match k with
  | _ => ("", "", "", false)
def tyJ10 : Nat → FieldType := fun k => match k with
  | _ => .int
abbrev wsJ100 : List Cond := u_ws RJ10 TJ10 0
theorem nmJ10 : ∀ a, a < 0 → ∀ b, b < 0 → a ≠ b → (TJ10 a).2.1 ≠ (TJ10 b).2.1 := by decide +kernel
theorem tyJ10_ok : ∀ k, k < 0 → parseFieldDescriptor (TJ10 k).2.2.1 = some (tyJ10 k) := by decide +kernel
def RL : String := "SleeplessVillageLaw"
abbrev cL_law : ByteArray := code
def yL_law : MethodName := ⟨RL, "law", "([I)Z"⟩
end
section
theorem dX0_init_0 : decode cX0_init 0 = .ok (.aload_n 0, 1) := by decide +kernel
theorem dX0_init_1 : decode cX0_init 1 = .ok (.invokespecial 3, 3) := by decide +kernel
theorem dX0_init_4 : decode cX0_init 4 = .ok (.aload_n 0, 1) := by decide +kernel
theorem dX0_init_5 : decode cX0_init 5 = .ok (.iconst 2, 1) := by decide +kernel
theorem dX0_init_6 : decode cX0_init 6 = .ok (.anewarray 9, 3) := by decide +kernel
theorem dX0_init_9 : decode cX0_init 9 = .ok (.putfield 11, 3) := by decide +kernel
theorem dX0_init_12 : decode cX0_init 12 = .ok (.aload_n 0, 1) := by decide +kernel
theorem dX0_init_13 : decode cX0_init 13 = .ok (.iconst 2, 1) := by decide +kernel
theorem dX0_init_14 : decode cX0_init 14 = .ok (.newarray .int, 2) := by decide +kernel
theorem dX0_init_16 : decode cX0_init 16 = .ok (.putfield 17, 3) := by decide +kernel
theorem dX0_init_19 : decode cX0_init 19 = .ok (.aload_n 0, 1) := by decide +kernel
theorem dX0_init_20 : decode cX0_init 20 = .ok (.iconst 2, 1) := by decide +kernel
theorem dX0_init_21 : decode cX0_init 21 = .ok (.newarray .boolean, 2) := by decide +kernel
theorem dX0_init_23 : decode cX0_init 23 = .ok (.putfield 21, 3) := by decide +kernel
theorem dX0_init_26 : decode cX0_init 26 = .ok (.iconst 0, 1) := by decide +kernel
theorem dX0_init_27 : decode cX0_init 27 = .ok (.istore_n 1, 1) := by decide +kernel
theorem dX0_init_28 : decode cX0_init 28 = .ok (.iload_n 1, 1) := by decide +kernel
theorem dX0_init_29 : decode cX0_init 29 = .ok (.iconst 2, 1) := by decide +kernel
theorem dX0_init_30 : decode cX0_init 30 = .ok (.if_icmp .ge 22, 3) := by decide +kernel
theorem dX0_init_33 : decode cX0_init 33 = .ok (.aload_n 0, 1) := by decide +kernel
theorem dX0_init_34 : decode cX0_init 34 = .ok (.getfield 11, 3) := by decide +kernel
theorem dX0_init_37 : decode cX0_init 37 = .ok (.iload_n 1, 1) := by decide +kernel
theorem dX0_init_38 : decode cX0_init 38 = .ok (.new 9, 3) := by decide +kernel
theorem dX0_init_41 : decode cX0_init 41 = .ok (.dup, 1) := by decide +kernel
theorem dX0_init_42 : decode cX0_init 42 = .ok (.invokespecial 25, 3) := by decide +kernel
theorem dX0_init_45 : decode cX0_init 45 = .ok (.aastore, 1) := by decide +kernel
theorem dX0_init_46 : decode cX0_init 46 = .ok (.iinc 1 1, 3) := by decide +kernel
theorem dX0_init_49 : decode cX0_init 49 = .ok (.goto (-21), 3) := by decide +kernel
theorem dX0_init_52 : decode cX0_init 52 = .ok (.return_, 1) := by decide +kernel
theorem dX0_clear_0 : decode cX0_clear 0 = .ok (.iconst 0, 1) := by decide +kernel
theorem dX0_clear_1 : decode cX0_clear 1 = .ok (.istore_n 1, 1) := by decide +kernel
theorem dX0_clear_2 : decode cX0_clear 2 = .ok (.iload_n 1, 1) := by decide +kernel
theorem dX0_clear_3 : decode cX0_clear 3 = .ok (.iconst 2, 1) := by decide +kernel
theorem dX0_clear_4 : decode cX0_clear 4 = .ok (.if_icmp .ge 16, 3) := by decide +kernel
theorem dX0_clear_7 : decode cX0_clear 7 = .ok (.aload_n 0, 1) := by decide +kernel
theorem dX0_clear_8 : decode cX0_clear 8 = .ok (.getfield 21, 3) := by decide +kernel
theorem dX0_clear_11 : decode cX0_clear 11 = .ok (.iload_n 1, 1) := by decide +kernel
theorem dX0_clear_12 : decode cX0_clear 12 = .ok (.iconst 0, 1) := by decide +kernel
theorem dX0_clear_13 : decode cX0_clear 13 = .ok (.bastore, 1) := by decide +kernel
theorem dX0_clear_14 : decode cX0_clear 14 = .ok (.iinc 1 1, 3) := by decide +kernel
theorem dX0_clear_17 : decode cX0_clear 17 = .ok (.goto (-15), 3) := by decide +kernel
theorem dX0_clear_20 : decode cX0_clear 20 = .ok (.return_, 1) := by decide +kernel
theorem dX0_hasPlace_0 : decode cX0_hasPlace 0 = .ok (.iload_n 1, 1) := by decide +kernel
theorem dX0_hasPlace_1 : decode cX0_hasPlace 1 = .ok (.ifCond .lt 12, 3) := by decide +kernel
theorem dX0_hasPlace_4 : decode cX0_hasPlace 4 = .ok (.iload_n 1, 1) := by decide +kernel
theorem dX0_hasPlace_5 : decode cX0_hasPlace 5 = .ok (.iconst 2, 1) := by decide +kernel
theorem dX0_hasPlace_6 : decode cX0_hasPlace 6 = .ok (.if_icmp .ge 7, 3) := by decide +kernel
theorem dX0_hasPlace_9 : decode cX0_hasPlace 9 = .ok (.iconst 1, 1) := by decide +kernel
theorem dX0_hasPlace_10 : decode cX0_hasPlace 10 = .ok (.goto 4, 3) := by decide +kernel
theorem dX0_hasPlace_13 : decode cX0_hasPlace 13 = .ok (.iconst 0, 1) := by decide +kernel
theorem dX0_hasPlace_14 : decode cX0_hasPlace 14 = .ok (.ireturn, 1) := by decide +kernel
theorem dX0_store_0 : decode cX0_store 0 = .ok (.aload_n 0, 1) := by decide +kernel
theorem dX0_store_1 : decode cX0_store 1 = .ok (.iload_n 1, 1) := by decide +kernel
theorem dX0_store_2 : decode cX0_store 2 = .ok (.invokevirtual 26, 3) := by decide +kernel
theorem dX0_store_5 : decode cX0_store 5 = .ok (.ifCond .eq 12, 3) := by decide +kernel
theorem dX0_store_8 : decode cX0_store 8 = .ok (.aload_n 0, 1) := by decide +kernel
theorem dX0_store_9 : decode cX0_store 9 = .ok (.getfield 11, 3) := by decide +kernel
theorem dX0_store_12 : decode cX0_store 12 = .ok (.iload_n 1, 1) := by decide +kernel
theorem dX0_store_13 : decode cX0_store 13 = .ok (.aaload, 1) := by decide +kernel
theorem dX0_store_14 : decode cX0_store 14 = .ok (.ifnonnull 4, 3) := by decide +kernel
theorem dX0_store_17 : decode cX0_store 17 = .ok (.return_, 1) := by decide +kernel
theorem dX0_store_18 : decode cX0_store 18 = .ok (.aload_n 0, 1) := by decide +kernel
theorem dX0_store_19 : decode cX0_store 19 = .ok (.getfield 11, 3) := by decide +kernel
theorem dX0_store_22 : decode cX0_store 22 = .ok (.iload_n 1, 1) := by decide +kernel
theorem dX0_store_23 : decode cX0_store 23 = .ok (.aaload, 1) := by decide +kernel
theorem dX0_store_24 : decode cX0_store 24 = .ok (.aload_n 2, 1) := by decide +kernel
theorem dX0_store_25 : decode cX0_store 25 = .ok (.invokevirtual 30, 3) := by decide +kernel
theorem dX0_store_28 : decode cX0_store 28 = .ok (.aload_n 0, 1) := by decide +kernel
theorem dX0_store_29 : decode cX0_store 29 = .ok (.getfield 17, 3) := by decide +kernel
theorem dX0_store_32 : decode cX0_store 32 = .ok (.iload_n 1, 1) := by decide +kernel
theorem dX0_store_33 : decode cX0_store 33 = .ok (.aload_n 3, 1) := by decide +kernel
theorem dX0_store_34 : decode cX0_store 34 = .ok (.getfield 34, 3) := by decide +kernel
theorem dX0_store_37 : decode cX0_store 37 = .ok (.iastore, 1) := by decide +kernel
theorem dX0_store_38 : decode cX0_store 38 = .ok (.aload_n 0, 1) := by decide +kernel
theorem dX0_store_39 : decode cX0_store 39 = .ok (.getfield 21, 3) := by decide +kernel
theorem dX0_store_42 : decode cX0_store 42 = .ok (.iload_n 1, 1) := by decide +kernel
theorem dX0_store_43 : decode cX0_store 43 = .ok (.iconst 1, 1) := by decide +kernel
theorem dX0_store_44 : decode cX0_store 44 = .ok (.bastore, 1) := by decide +kernel
theorem dX0_store_45 : decode cX0_store 45 = .ok (.return_, 1) := by decide +kernel
theorem dX0_load_0 : decode cX0_load 0 = .ok (.aload_n 0, 1) := by decide +kernel
theorem dX0_load_1 : decode cX0_load 1 = .ok (.iload_n 1, 1) := by decide +kernel
theorem dX0_load_2 : decode cX0_load 2 = .ok (.invokevirtual 26, 3) := by decide +kernel
theorem dX0_load_5 : decode cX0_load 5 = .ok (.ifCond .eq 21, 3) := by decide +kernel
theorem dX0_load_8 : decode cX0_load 8 = .ok (.aload_n 0, 1) := by decide +kernel
theorem dX0_load_9 : decode cX0_load 9 = .ok (.getfield 11, 3) := by decide +kernel
theorem dX0_load_12 : decode cX0_load 12 = .ok (.iload_n 1, 1) := by decide +kernel
theorem dX0_load_13 : decode cX0_load 13 = .ok (.aaload, 1) := by decide +kernel
theorem dX0_load_14 : decode cX0_load 14 = .ok (.ifnull 12, 3) := by decide +kernel
theorem dX0_load_17 : decode cX0_load 17 = .ok (.aload_n 0, 1) := by decide +kernel
theorem dX0_load_18 : decode cX0_load 18 = .ok (.getfield 21, 3) := by decide +kernel
theorem dX0_load_21 : decode cX0_load 21 = .ok (.iload_n 1, 1) := by decide +kernel
theorem dX0_load_22 : decode cX0_load 22 = .ok (.baload, 1) := by decide +kernel
theorem dX0_load_23 : decode cX0_load 23 = .ok (.ifCond .ne 5, 3) := by decide +kernel
theorem dX0_load_26 : decode cX0_load 26 = .ok (.iconst 0, 1) := by decide +kernel
theorem dX0_load_27 : decode cX0_load 27 = .ok (.ireturn, 1) := by decide +kernel
theorem dX0_load_28 : decode cX0_load 28 = .ok (.aload_n 2, 1) := by decide +kernel
theorem dX0_load_29 : decode cX0_load 29 = .ok (.aload_n 0, 1) := by decide +kernel
theorem dX0_load_30 : decode cX0_load 30 = .ok (.getfield 11, 3) := by decide +kernel
theorem dX0_load_33 : decode cX0_load 33 = .ok (.iload_n 1, 1) := by decide +kernel
theorem dX0_load_34 : decode cX0_load 34 = .ok (.aaload, 1) := by decide +kernel
theorem dX0_load_35 : decode cX0_load 35 = .ok (.invokevirtual 30, 3) := by decide +kernel
theorem dX0_load_38 : decode cX0_load 38 = .ok (.aload_n 3, 1) := by decide +kernel
theorem dX0_load_39 : decode cX0_load 39 = .ok (.aload_n 0, 1) := by decide +kernel
theorem dX0_load_40 : decode cX0_load 40 = .ok (.getfield 17, 3) := by decide +kernel
theorem dX0_load_43 : decode cX0_load 43 = .ok (.iload_n 1, 1) := by decide +kernel
theorem dX0_load_44 : decode cX0_load 44 = .ok (.iaload, 1) := by decide +kernel
theorem dX0_load_45 : decode cX0_load 45 = .ok (.putfield 34, 3) := by decide +kernel
theorem dX0_load_48 : decode cX0_load 48 = .ok (.iconst 1, 1) := by decide +kernel
theorem dX0_load_49 : decode cX0_load 49 = .ok (.ireturn, 1) := by decide +kernel
theorem dX1_init_0 : decode cX1_init 0 = .ok (.aload_n 0, 1) := by decide +kernel
theorem dX1_init_1 : decode cX1_init 1 = .ok (.invokespecial 3, 3) := by decide +kernel
theorem dX1_init_4 : decode cX1_init 4 = .ok (.aload_n 0, 1) := by decide +kernel
theorem dX1_init_5 : decode cX1_init 5 = .ok (.bipush 15, 2) := by decide +kernel
theorem dX1_init_7 : decode cX1_init 7 = .ok (.newarray .int, 2) := by decide +kernel
theorem dX1_init_9 : decode cX1_init 9 = .ok (.putfield 9, 3) := by decide +kernel
theorem dX1_init_12 : decode cX1_init 12 = .ok (.aload_n 0, 1) := by decide +kernel
theorem dX1_init_13 : decode cX1_init 13 = .ok (.bipush 15, 2) := by decide +kernel
theorem dX1_init_15 : decode cX1_init 15 = .ok (.newarray .int, 2) := by decide +kernel
theorem dX1_init_17 : decode cX1_init 17 = .ok (.putfield 15, 3) := by decide +kernel
theorem dX1_init_20 : decode cX1_init 20 = .ok (.return_, 1) := by decide +kernel
theorem dX1_clear_0 : decode cX1_clear 0 = .ok (.aload_n 0, 1) := by decide +kernel
theorem dX1_clear_1 : decode cX1_clear 1 = .ok (.iconst 0, 1) := by decide +kernel
theorem dX1_clear_2 : decode cX1_clear 2 = .ok (.putfield 18, 3) := by decide +kernel
theorem dX1_clear_5 : decode cX1_clear 5 = .ok (.return_, 1) := by decide +kernel
theorem dX1_append_0 : decode cX1_append 0 = .ok (.aload_n 0, 1) := by decide +kernel
theorem dX1_append_1 : decode cX1_append 1 = .ok (.getfield 18, 3) := by decide +kernel
theorem dX1_append_4 : decode cX1_append 4 = .ok (.ifCond .lt 12, 3) := by decide +kernel
theorem dX1_append_7 : decode cX1_append 7 = .ok (.aload_n 0, 1) := by decide +kernel
theorem dX1_append_8 : decode cX1_append 8 = .ok (.getfield 18, 3) := by decide +kernel
theorem dX1_append_11 : decode cX1_append 11 = .ok (.bipush 15, 2) := by decide +kernel
theorem dX1_append_13 : decode cX1_append 13 = .ok (.if_icmp .lt 5, 3) := by decide +kernel
theorem dX1_append_16 : decode cX1_append 16 = .ok (.iconst 0, 1) := by decide +kernel
theorem dX1_append_17 : decode cX1_append 17 = .ok (.ireturn, 1) := by decide +kernel
theorem dX1_append_18 : decode cX1_append 18 = .ok (.aload_n 0, 1) := by decide +kernel
theorem dX1_append_19 : decode cX1_append 19 = .ok (.getfield 9, 3) := by decide +kernel
theorem dX1_append_22 : decode cX1_append 22 = .ok (.aload_n 0, 1) := by decide +kernel
theorem dX1_append_23 : decode cX1_append 23 = .ok (.getfield 18, 3) := by decide +kernel
theorem dX1_append_26 : decode cX1_append 26 = .ok (.iload_n 1, 1) := by decide +kernel
theorem dX1_append_27 : decode cX1_append 27 = .ok (.iastore, 1) := by decide +kernel
theorem dX1_append_28 : decode cX1_append 28 = .ok (.aload_n 0, 1) := by decide +kernel
theorem dX1_append_29 : decode cX1_append 29 = .ok (.getfield 15, 3) := by decide +kernel
theorem dX1_append_32 : decode cX1_append 32 = .ok (.aload_n 0, 1) := by decide +kernel
theorem dX1_append_33 : decode cX1_append 33 = .ok (.getfield 18, 3) := by decide +kernel
theorem dX1_append_36 : decode cX1_append 36 = .ok (.iload_n 2, 1) := by decide +kernel
theorem dX1_append_37 : decode cX1_append 37 = .ok (.iastore, 1) := by decide +kernel
theorem dX1_append_38 : decode cX1_append 38 = .ok (.aload_n 0, 1) := by decide +kernel
theorem dX1_append_39 : decode cX1_append 39 = .ok (.dup, 1) := by decide +kernel
theorem dX1_append_40 : decode cX1_append 40 = .ok (.getfield 18, 3) := by decide +kernel
theorem dX1_append_43 : decode cX1_append 43 = .ok (.iconst 1, 1) := by decide +kernel
theorem dX1_append_44 : decode cX1_append 44 = .ok (.iadd, 1) := by decide +kernel
theorem dX1_append_45 : decode cX1_append 45 = .ok (.putfield 18, 3) := by decide +kernel
theorem dX1_append_48 : decode cX1_append 48 = .ok (.iconst 1, 1) := by decide +kernel
theorem dX1_append_49 : decode cX1_append 49 = .ok (.ireturn, 1) := by decide +kernel
theorem dX1_firstWrong_0 : decode cX1_firstWrong 0 = .ok (.iconst 0, 1) := by decide +kernel
theorem dX1_firstWrong_1 : decode cX1_firstWrong 1 = .ok (.istore_n 2, 1) := by decide +kernel
theorem dX1_firstWrong_2 : decode cX1_firstWrong 2 = .ok (.iload_n 2, 1) := by decide +kernel
theorem dX1_firstWrong_3 : decode cX1_firstWrong 3 = .ok (.aload_n 0, 1) := by decide +kernel
theorem dX1_firstWrong_4 : decode cX1_firstWrong 4 = .ok (.getfield 18, 3) := by decide +kernel
theorem dX1_firstWrong_7 : decode cX1_firstWrong 7 = .ok (.if_icmp .ge 52, 3) := by decide +kernel
theorem dX1_firstWrong_10 : decode cX1_firstWrong 10 = .ok (.iload_n 2, 1) := by decide +kernel
theorem dX1_firstWrong_11 : decode cX1_firstWrong 11 = .ok (.bipush 15, 2) := by decide +kernel
theorem dX1_firstWrong_13 : decode cX1_firstWrong 13 = .ok (.if_icmp .ge 46, 3) := by decide +kernel
theorem dX1_firstWrong_16 : decode cX1_firstWrong 16 = .ok (.aload_n 0, 1) := by decide +kernel
theorem dX1_firstWrong_17 : decode cX1_firstWrong 17 = .ok (.getfield 9, 3) := by decide +kernel
theorem dX1_firstWrong_20 : decode cX1_firstWrong 20 = .ok (.iload_n 2, 1) := by decide +kernel
theorem dX1_firstWrong_21 : decode cX1_firstWrong 21 = .ok (.iaload, 1) := by decide +kernel
theorem dX1_firstWrong_22 : decode cX1_firstWrong 22 = .ok (.istore_n 3, 1) := by decide +kernel
theorem dX1_firstWrong_23 : decode cX1_firstWrong 23 = .ok (.iload_n 3, 1) := by decide +kernel
theorem dX1_firstWrong_24 : decode cX1_firstWrong 24 = .ok (.ifCond .lt 29, 3) := by decide +kernel
theorem dX1_firstWrong_27 : decode cX1_firstWrong 27 = .ok (.iload_n 3, 1) := by decide +kernel
theorem dX1_firstWrong_28 : decode cX1_firstWrong 28 = .ok (.bipush 6, 2) := by decide +kernel
theorem dX1_firstWrong_30 : decode cX1_firstWrong 30 = .ok (.if_icmp .lt 6, 3) := by decide +kernel
theorem dX1_firstWrong_33 : decode cX1_firstWrong 33 = .ok (.goto 20, 3) := by decide +kernel
theorem dX1_firstWrong_36 : decode cX1_firstWrong 36 = .ok (.aload_n 1, 1) := by decide +kernel
theorem dX1_firstWrong_37 : decode cX1_firstWrong 37 = .ok (.getfield 22, 3) := by decide +kernel
theorem dX1_firstWrong_40 : decode cX1_firstWrong 40 = .ok (.iload_n 3, 1) := by decide +kernel
theorem dX1_firstWrong_41 : decode cX1_firstWrong 41 = .ok (.iaload, 1) := by decide +kernel
theorem dX1_firstWrong_42 : decode cX1_firstWrong 42 = .ok (.aload_n 0, 1) := by decide +kernel
theorem dX1_firstWrong_43 : decode cX1_firstWrong 43 = .ok (.getfield 15, 3) := by decide +kernel
theorem dX1_firstWrong_46 : decode cX1_firstWrong 46 = .ok (.iload_n 2, 1) := by decide +kernel
theorem dX1_firstWrong_47 : decode cX1_firstWrong 47 = .ok (.iaload, 1) := by decide +kernel
theorem dX1_firstWrong_48 : decode cX1_firstWrong 48 = .ok (.if_icmp .eq 5, 3) := by decide +kernel
theorem dX1_firstWrong_51 : decode cX1_firstWrong 51 = .ok (.iload_n 2, 1) := by decide +kernel
theorem dX1_firstWrong_52 : decode cX1_firstWrong 52 = .ok (.ireturn, 1) := by decide +kernel
theorem dX1_firstWrong_53 : decode cX1_firstWrong 53 = .ok (.iinc 2 1, 3) := by decide +kernel
theorem dX1_firstWrong_56 : decode cX1_firstWrong 56 = .ok (.goto (-54), 3) := by decide +kernel
theorem dX1_firstWrong_59 : decode cX1_firstWrong 59 = .ok (.iconst (-1), 1) := by decide +kernel
theorem dX1_firstWrong_60 : decode cX1_firstWrong 60 = .ok (.ireturn, 1) := by decide +kernel
theorem dX2_init_0 : decode cX2_init 0 = .ok (.aload_n 0, 1) := by decide +kernel
theorem dX2_init_1 : decode cX2_init 1 = .ok (.invokespecial 3, 3) := by decide +kernel
theorem dX2_init_4 : decode cX2_init 4 = .ok (.aload_n 0, 1) := by decide +kernel
theorem dX2_init_5 : decode cX2_init 5 = .ok (.bipush 6, 2) := by decide +kernel
theorem dX2_init_7 : decode cX2_init 7 = .ok (.newarray .int, 2) := by decide +kernel
theorem dX2_init_9 : decode cX2_init 9 = .ok (.putfield 9, 3) := by decide +kernel
theorem dX2_init_12 : decode cX2_init 12 = .ok (.aload_n 0, 1) := by decide +kernel
theorem dX2_init_13 : decode cX2_init 13 = .ok (.bipush 6, 2) := by decide +kernel
theorem dX2_init_15 : decode cX2_init 15 = .ok (.newarray .int, 2) := by decide +kernel
theorem dX2_init_17 : decode cX2_init 17 = .ok (.putfield 15, 3) := by decide +kernel
theorem dX2_init_20 : decode cX2_init 20 = .ok (.aload_n 0, 1) := by decide +kernel
theorem dX2_init_21 : decode cX2_init 21 = .ok (.bipush 6, 2) := by decide +kernel
theorem dX2_init_23 : decode cX2_init 23 = .ok (.newarray .int, 2) := by decide +kernel
theorem dX2_init_25 : decode cX2_init 25 = .ok (.putfield 18, 3) := by decide +kernel
theorem dX2_init_28 : decode cX2_init 28 = .ok (.aload_n 0, 1) := by decide +kernel
theorem dX2_init_29 : decode cX2_init 29 = .ok (.bipush 6, 2) := by decide +kernel
theorem dX2_init_31 : decode cX2_init 31 = .ok (.newarray .int, 2) := by decide +kernel
theorem dX2_init_33 : decode cX2_init 33 = .ok (.putfield 21, 3) := by decide +kernel
theorem dX2_init_36 : decode cX2_init 36 = .ok (.aload_n 0, 1) := by decide +kernel
theorem dX2_init_37 : decode cX2_init 37 = .ok (.bipush 8, 2) := by decide +kernel
theorem dX2_init_39 : decode cX2_init 39 = .ok (.newarray .int, 2) := by decide +kernel
theorem dX2_init_41 : decode cX2_init 41 = .ok (.putfield 24, 3) := by decide +kernel
theorem dX2_init_44 : decode cX2_init 44 = .ok (.return_, 1) := by decide +kernel
theorem dX2_clear_0 : decode cX2_clear 0 = .ok (.aload_n 0, 1) := by decide +kernel
theorem dX2_clear_1 : decode cX2_clear 1 = .ok (.iconst 0, 1) := by decide +kernel
theorem dX2_clear_2 : decode cX2_clear 2 = .ok (.putfield 27, 3) := by decide +kernel
theorem dX2_clear_5 : decode cX2_clear 5 = .ok (.aload_n 0, 1) := by decide +kernel
theorem dX2_clear_6 : decode cX2_clear 6 = .ok (.iconst 0, 1) := by decide +kernel
theorem dX2_clear_7 : decode cX2_clear 7 = .ok (.putfield 31, 3) := by decide +kernel
theorem dX2_clear_10 : decode cX2_clear 10 = .ok (.aload_n 0, 1) := by decide +kernel
theorem dX2_clear_11 : decode cX2_clear 11 = .ok (.iconst 0, 1) := by decide +kernel
theorem dX2_clear_12 : decode cX2_clear 12 = .ok (.putfield 34, 3) := by decide +kernel
theorem dX2_clear_15 : decode cX2_clear 15 = .ok (.aload_n 0, 1) := by decide +kernel
theorem dX2_clear_16 : decode cX2_clear 16 = .ok (.iconst 0, 1) := by decide +kernel
theorem dX2_clear_17 : decode cX2_clear 17 = .ok (.putfield 37, 3) := by decide +kernel
theorem dX2_clear_20 : decode cX2_clear 20 = .ok (.aload_n 0, 1) := by decide +kernel
theorem dX2_clear_21 : decode cX2_clear 21 = .ok (.iconst 0, 1) := by decide +kernel
theorem dX2_clear_22 : decode cX2_clear 22 = .ok (.putfield 40, 3) := by decide +kernel
theorem dX2_clear_25 : decode cX2_clear 25 = .ok (.aload_n 0, 1) := by decide +kernel
theorem dX2_clear_26 : decode cX2_clear 26 = .ok (.iconst 0, 1) := by decide +kernel
theorem dX2_clear_27 : decode cX2_clear 27 = .ok (.putfield 43, 3) := by decide +kernel
theorem dX2_clear_30 : decode cX2_clear 30 = .ok (.return_, 1) := by decide +kernel
theorem dX2_copyFrom_0 : decode cX2_copyFrom 0 = .ok (.aload_n 0, 1) := by decide +kernel
theorem dX2_copyFrom_1 : decode cX2_copyFrom 1 = .ok (.aload_n 1, 1) := by decide +kernel
theorem dX2_copyFrom_2 : decode cX2_copyFrom 2 = .ok (.getfield 27, 3) := by decide +kernel
theorem dX2_copyFrom_5 : decode cX2_copyFrom 5 = .ok (.putfield 27, 3) := by decide +kernel
theorem dX2_copyFrom_8 : decode cX2_copyFrom 8 = .ok (.aload_n 0, 1) := by decide +kernel
theorem dX2_copyFrom_9 : decode cX2_copyFrom 9 = .ok (.aload_n 1, 1) := by decide +kernel
theorem dX2_copyFrom_10 : decode cX2_copyFrom 10 = .ok (.getfield 31, 3) := by decide +kernel
theorem dX2_copyFrom_13 : decode cX2_copyFrom 13 = .ok (.putfield 31, 3) := by decide +kernel
theorem dX2_copyFrom_16 : decode cX2_copyFrom 16 = .ok (.aload_n 0, 1) := by decide +kernel
theorem dX2_copyFrom_17 : decode cX2_copyFrom 17 = .ok (.aload_n 1, 1) := by decide +kernel
theorem dX2_copyFrom_18 : decode cX2_copyFrom 18 = .ok (.getfield 34, 3) := by decide +kernel
theorem dX2_copyFrom_21 : decode cX2_copyFrom 21 = .ok (.putfield 34, 3) := by decide +kernel
theorem dX2_copyFrom_24 : decode cX2_copyFrom 24 = .ok (.aload_n 0, 1) := by decide +kernel
theorem dX2_copyFrom_25 : decode cX2_copyFrom 25 = .ok (.aload_n 1, 1) := by decide +kernel
theorem dX2_copyFrom_26 : decode cX2_copyFrom 26 = .ok (.getfield 37, 3) := by decide +kernel
theorem dX2_copyFrom_29 : decode cX2_copyFrom 29 = .ok (.putfield 37, 3) := by decide +kernel
theorem dX2_copyFrom_32 : decode cX2_copyFrom 32 = .ok (.aload_n 0, 1) := by decide +kernel
theorem dX2_copyFrom_33 : decode cX2_copyFrom 33 = .ok (.aload_n 1, 1) := by decide +kernel
theorem dX2_copyFrom_34 : decode cX2_copyFrom 34 = .ok (.getfield 40, 3) := by decide +kernel
theorem dX2_copyFrom_37 : decode cX2_copyFrom 37 = .ok (.putfield 40, 3) := by decide +kernel
theorem dX2_copyFrom_40 : decode cX2_copyFrom 40 = .ok (.aload_n 0, 1) := by decide +kernel
theorem dX2_copyFrom_41 : decode cX2_copyFrom 41 = .ok (.aload_n 1, 1) := by decide +kernel
theorem dX2_copyFrom_42 : decode cX2_copyFrom 42 = .ok (.getfield 43, 3) := by decide +kernel
theorem dX2_copyFrom_45 : decode cX2_copyFrom 45 = .ok (.putfield 43, 3) := by decide +kernel
theorem dX2_copyFrom_48 : decode cX2_copyFrom 48 = .ok (.aload_n 1, 1) := by decide +kernel
theorem dX2_copyFrom_49 : decode cX2_copyFrom 49 = .ok (.getfield 9, 3) := by decide +kernel
theorem dX2_copyFrom_52 : decode cX2_copyFrom 52 = .ok (.iconst 0, 1) := by decide +kernel
theorem dX2_copyFrom_53 : decode cX2_copyFrom 53 = .ok (.aload_n 0, 1) := by decide +kernel
theorem dX2_copyFrom_54 : decode cX2_copyFrom 54 = .ok (.getfield 9, 3) := by decide +kernel
theorem dX2_copyFrom_57 : decode cX2_copyFrom 57 = .ok (.iconst 0, 1) := by decide +kernel
theorem dX2_copyFrom_58 : decode cX2_copyFrom 58 = .ok (.bipush 6, 2) := by decide +kernel
theorem dX2_copyFrom_60 : decode cX2_copyFrom 60 = .ok (.invokestatic 46, 3) := by decide +kernel
theorem dX2_copyFrom_63 : decode cX2_copyFrom 63 = .ok (.aload_n 1, 1) := by decide +kernel
theorem dX2_copyFrom_64 : decode cX2_copyFrom 64 = .ok (.getfield 15, 3) := by decide +kernel
theorem dX2_copyFrom_67 : decode cX2_copyFrom 67 = .ok (.iconst 0, 1) := by decide +kernel
theorem dX2_copyFrom_68 : decode cX2_copyFrom 68 = .ok (.aload_n 0, 1) := by decide +kernel
theorem dX2_copyFrom_69 : decode cX2_copyFrom 69 = .ok (.getfield 15, 3) := by decide +kernel
theorem dX2_copyFrom_72 : decode cX2_copyFrom 72 = .ok (.iconst 0, 1) := by decide +kernel
theorem dX2_copyFrom_73 : decode cX2_copyFrom 73 = .ok (.bipush 6, 2) := by decide +kernel
theorem dX2_copyFrom_75 : decode cX2_copyFrom 75 = .ok (.invokestatic 46, 3) := by decide +kernel
theorem dX2_copyFrom_78 : decode cX2_copyFrom 78 = .ok (.aload_n 1, 1) := by decide +kernel
theorem dX2_copyFrom_79 : decode cX2_copyFrom 79 = .ok (.getfield 18, 3) := by decide +kernel
theorem dX2_copyFrom_82 : decode cX2_copyFrom 82 = .ok (.iconst 0, 1) := by decide +kernel
theorem dX2_copyFrom_83 : decode cX2_copyFrom 83 = .ok (.aload_n 0, 1) := by decide +kernel
theorem dX2_copyFrom_84 : decode cX2_copyFrom 84 = .ok (.getfield 18, 3) := by decide +kernel
theorem dX2_copyFrom_87 : decode cX2_copyFrom 87 = .ok (.iconst 0, 1) := by decide +kernel
theorem dX2_copyFrom_88 : decode cX2_copyFrom 88 = .ok (.bipush 6, 2) := by decide +kernel
theorem dX2_copyFrom_90 : decode cX2_copyFrom 90 = .ok (.invokestatic 46, 3) := by decide +kernel
theorem dX2_copyFrom_93 : decode cX2_copyFrom 93 = .ok (.aload_n 1, 1) := by decide +kernel
theorem dX2_copyFrom_94 : decode cX2_copyFrom 94 = .ok (.getfield 21, 3) := by decide +kernel
theorem dX2_copyFrom_97 : decode cX2_copyFrom 97 = .ok (.iconst 0, 1) := by decide +kernel
theorem dX2_copyFrom_98 : decode cX2_copyFrom 98 = .ok (.aload_n 0, 1) := by decide +kernel
theorem dX2_copyFrom_99 : decode cX2_copyFrom 99 = .ok (.getfield 21, 3) := by decide +kernel
theorem dX2_copyFrom_102 : decode cX2_copyFrom 102 = .ok (.iconst 0, 1) := by decide +kernel
theorem dX2_copyFrom_103 : decode cX2_copyFrom 103 = .ok (.bipush 6, 2) := by decide +kernel
theorem dX2_copyFrom_105 : decode cX2_copyFrom 105 = .ok (.invokestatic 46, 3) := by decide +kernel
theorem dX2_copyFrom_108 : decode cX2_copyFrom 108 = .ok (.aload_n 1, 1) := by decide +kernel
theorem dX2_copyFrom_109 : decode cX2_copyFrom 109 = .ok (.getfield 24, 3) := by decide +kernel
theorem dX2_copyFrom_112 : decode cX2_copyFrom 112 = .ok (.iconst 0, 1) := by decide +kernel
theorem dX2_copyFrom_113 : decode cX2_copyFrom 113 = .ok (.aload_n 0, 1) := by decide +kernel
theorem dX2_copyFrom_114 : decode cX2_copyFrom 114 = .ok (.getfield 24, 3) := by decide +kernel
theorem dX2_copyFrom_117 : decode cX2_copyFrom 117 = .ok (.iconst 0, 1) := by decide +kernel
theorem dX2_copyFrom_118 : decode cX2_copyFrom 118 = .ok (.bipush 8, 2) := by decide +kernel
theorem dX2_copyFrom_120 : decode cX2_copyFrom 120 = .ok (.invokestatic 46, 3) := by decide +kernel
theorem dX2_copyFrom_123 : decode cX2_copyFrom 123 = .ok (.return_, 1) := by decide +kernel
theorem dX2_stands_0 : decode cX2_stands 0 = .ok (.aload_n 0, 1) := by decide +kernel
theorem dX2_stands_1 : decode cX2_stands 1 = .ok (.getfield 27, 3) := by decide +kernel
theorem dX2_stands_4 : decode cX2_stands 4 = .ok (.ifCond .le 7, 3) := by decide +kernel
theorem dX2_stands_7 : decode cX2_stands 7 = .ok (.iconst 1, 1) := by decide +kernel
theorem dX2_stands_8 : decode cX2_stands 8 = .ok (.goto 4, 3) := by decide +kernel
theorem dX2_stands_11 : decode cX2_stands 11 = .ok (.iconst 0, 1) := by decide +kernel
theorem dX2_stands_12 : decode cX2_stands 12 = .ok (.ireturn, 1) := by decide +kernel
theorem dX2_hasWatcher_0 : decode cX2_hasWatcher 0 = .ok (.iload_n 1, 1) := by decide +kernel
theorem dX2_hasWatcher_1 : decode cX2_hasWatcher 1 = .ok (.ifCond .lt 21, 3) := by decide +kernel
theorem dX2_hasWatcher_4 : decode cX2_hasWatcher 4 = .ok (.iload_n 1, 1) := by decide +kernel
theorem dX2_hasWatcher_5 : decode cX2_hasWatcher 5 = .ok (.aload_n 0, 1) := by decide +kernel
theorem dX2_hasWatcher_6 : decode cX2_hasWatcher 6 = .ok (.getfield 40, 3) := by decide +kernel
theorem dX2_hasWatcher_9 : decode cX2_hasWatcher 9 = .ok (.if_icmp .ge 13, 3) := by decide +kernel
theorem dX2_hasWatcher_12 : decode cX2_hasWatcher 12 = .ok (.iload_n 1, 1) := by decide +kernel
theorem dX2_hasWatcher_13 : decode cX2_hasWatcher 13 = .ok (.bipush 6, 2) := by decide +kernel
theorem dX2_hasWatcher_15 : decode cX2_hasWatcher 15 = .ok (.if_icmp .ge 7, 3) := by decide +kernel
theorem dX2_hasWatcher_18 : decode cX2_hasWatcher 18 = .ok (.iconst 1, 1) := by decide +kernel
theorem dX2_hasWatcher_19 : decode cX2_hasWatcher 19 = .ok (.goto 4, 3) := by decide +kernel
theorem dX2_hasWatcher_22 : decode cX2_hasWatcher 22 = .ok (.iconst 0, 1) := by decide +kernel
theorem dX2_hasWatcher_23 : decode cX2_hasWatcher 23 = .ok (.ireturn, 1) := by decide +kernel
theorem dX2_hasSleeper_0 : decode cX2_hasSleeper 0 = .ok (.iload_n 1, 1) := by decide +kernel
theorem dX2_hasSleeper_1 : decode cX2_hasSleeper 1 = .ok (.ifCond .lt 21, 3) := by decide +kernel
theorem dX2_hasSleeper_4 : decode cX2_hasSleeper 4 = .ok (.iload_n 1, 1) := by decide +kernel
theorem dX2_hasSleeper_5 : decode cX2_hasSleeper 5 = .ok (.aload_n 0, 1) := by decide +kernel
theorem dX2_hasSleeper_6 : decode cX2_hasSleeper 6 = .ok (.getfield 43, 3) := by decide +kernel
theorem dX2_hasSleeper_9 : decode cX2_hasSleeper 9 = .ok (.if_icmp .ge 13, 3) := by decide +kernel
theorem dX2_hasSleeper_12 : decode cX2_hasSleeper 12 = .ok (.iload_n 1, 1) := by decide +kernel
theorem dX2_hasSleeper_13 : decode cX2_hasSleeper 13 = .ok (.bipush 8, 2) := by decide +kernel
theorem dX2_hasSleeper_15 : decode cX2_hasSleeper 15 = .ok (.if_icmp .ge 7, 3) := by decide +kernel
theorem dX2_hasSleeper_18 : decode cX2_hasSleeper 18 = .ok (.iconst 1, 1) := by decide +kernel
theorem dX2_hasSleeper_19 : decode cX2_hasSleeper 19 = .ok (.goto 4, 3) := by decide +kernel
theorem dX2_hasSleeper_22 : decode cX2_hasSleeper 22 = .ok (.iconst 0, 1) := by decide +kernel
theorem dX2_hasSleeper_23 : decode cX2_hasSleeper 23 = .ok (.ireturn, 1) := by decide +kernel
theorem dX2_everybody_0 : decode cX2_everybody 0 = .ok (.iconst 1, 1) := by decide +kernel
theorem dX2_everybody_1 : decode cX2_everybody 1 = .ok (.aload_n 0, 1) := by decide +kernel
theorem dX2_everybody_2 : decode cX2_everybody 2 = .ok (.getfield 40, 3) := by decide +kernel
theorem dX2_everybody_5 : decode cX2_everybody 5 = .ok (.ishl, 1) := by decide +kernel
theorem dX2_everybody_6 : decode cX2_everybody 6 = .ok (.iconst 1, 1) := by decide +kernel
theorem dX2_everybody_7 : decode cX2_everybody 7 = .ok (.isub, 1) := by decide +kernel
theorem dX2_everybody_8 : decode cX2_everybody 8 = .ok (.ireturn, 1) := by decide +kernel
theorem dX2_hasAll_0 : decode cX2_hasAll 0 = .ok (.iload_n 1, 1) := by decide +kernel
theorem dX2_hasAll_1 : decode cX2_hasAll 1 = .ok (.aload_n 0, 1) := by decide +kernel
theorem dX2_hasAll_2 : decode cX2_hasAll 2 = .ok (.invokevirtual 52, 3) := by decide +kernel
theorem dX2_hasAll_5 : decode cX2_hasAll 5 = .ok (.iconst (-1), 1) := by decide +kernel
theorem dX2_hasAll_6 : decode cX2_hasAll 6 = .ok (.ixor, 1) := by decide +kernel
theorem dX2_hasAll_7 : decode cX2_hasAll 7 = .ok (.iand, 1) := by decide +kernel
theorem dX2_hasAll_8 : decode cX2_hasAll 8 = .ok (.ifCond .ne 7, 3) := by decide +kernel
theorem dX2_hasAll_11 : decode cX2_hasAll 11 = .ok (.iconst 1, 1) := by decide +kernel
theorem dX2_hasAll_12 : decode cX2_hasAll 12 = .ok (.goto 4, 3) := by decide +kernel
theorem dX2_hasAll_15 : decode cX2_hasAll 15 = .ok (.iconst 0, 1) := by decide +kernel
theorem dX2_hasAll_16 : decode cX2_hasAll 16 = .ok (.ireturn, 1) := by decide +kernel
theorem dX2_addWatcher_0 : decode cX2_addWatcher 0 = .ok (.aload_n 0, 1) := by decide +kernel
theorem dX2_addWatcher_1 : decode cX2_addWatcher 1 = .ok (.getfield 40, 3) := by decide +kernel
theorem dX2_addWatcher_4 : decode cX2_addWatcher 4 = .ok (.ifCond .lt 12, 3) := by decide +kernel
theorem dX2_addWatcher_7 : decode cX2_addWatcher 7 = .ok (.aload_n 0, 1) := by decide +kernel
theorem dX2_addWatcher_8 : decode cX2_addWatcher 8 = .ok (.getfield 40, 3) := by decide +kernel
theorem dX2_addWatcher_11 : decode cX2_addWatcher 11 = .ok (.bipush 6, 2) := by decide +kernel
theorem dX2_addWatcher_13 : decode cX2_addWatcher 13 = .ok (.if_icmp .lt 4, 3) := by decide +kernel
theorem dX2_addWatcher_16 : decode cX2_addWatcher 16 = .ok (.return_, 1) := by decide +kernel
theorem dX2_addWatcher_17 : decode cX2_addWatcher 17 = .ok (.aload_n 0, 1) := by decide +kernel
theorem dX2_addWatcher_18 : decode cX2_addWatcher 18 = .ok (.getfield 9, 3) := by decide +kernel
theorem dX2_addWatcher_21 : decode cX2_addWatcher 21 = .ok (.aload_n 0, 1) := by decide +kernel
theorem dX2_addWatcher_22 : decode cX2_addWatcher 22 = .ok (.getfield 40, 3) := by decide +kernel
theorem dX2_addWatcher_25 : decode cX2_addWatcher 25 = .ok (.iload_n 1, 1) := by decide +kernel
theorem dX2_addWatcher_26 : decode cX2_addWatcher 26 = .ok (.iastore, 1) := by decide +kernel
theorem dX2_addWatcher_27 : decode cX2_addWatcher 27 = .ok (.aload_n 0, 1) := by decide +kernel
theorem dX2_addWatcher_28 : decode cX2_addWatcher 28 = .ok (.getfield 15, 3) := by decide +kernel
theorem dX2_addWatcher_31 : decode cX2_addWatcher 31 = .ok (.aload_n 0, 1) := by decide +kernel
theorem dX2_addWatcher_32 : decode cX2_addWatcher 32 = .ok (.getfield 40, 3) := by decide +kernel
theorem dX2_addWatcher_35 : decode cX2_addWatcher 35 = .ok (.iload_n 2, 1) := by decide +kernel
theorem dX2_addWatcher_36 : decode cX2_addWatcher 36 = .ok (.iastore, 1) := by decide +kernel
theorem dX2_addWatcher_37 : decode cX2_addWatcher 37 = .ok (.aload_n 0, 1) := by decide +kernel
theorem dX2_addWatcher_38 : decode cX2_addWatcher 38 = .ok (.getfield 18, 3) := by decide +kernel
theorem dX2_addWatcher_41 : decode cX2_addWatcher 41 = .ok (.aload_n 0, 1) := by decide +kernel
theorem dX2_addWatcher_42 : decode cX2_addWatcher 42 = .ok (.getfield 40, 3) := by decide +kernel
theorem dX2_addWatcher_45 : decode cX2_addWatcher 45 = .ok (.iload_n 3, 1) := by decide +kernel
theorem dX2_addWatcher_46 : decode cX2_addWatcher 46 = .ok (.iastore, 1) := by decide +kernel
theorem dX2_addWatcher_47 : decode cX2_addWatcher 47 = .ok (.aload_n 0, 1) := by decide +kernel
theorem dX2_addWatcher_48 : decode cX2_addWatcher 48 = .ok (.getfield 21, 3) := by decide +kernel
theorem dX2_addWatcher_51 : decode cX2_addWatcher 51 = .ok (.aload_n 0, 1) := by decide +kernel
theorem dX2_addWatcher_52 : decode cX2_addWatcher 52 = .ok (.getfield 40, 3) := by decide +kernel
theorem dX2_addWatcher_55 : decode cX2_addWatcher 55 = .ok (.iload 4, 2) := by decide +kernel
theorem dX2_addWatcher_57 : decode cX2_addWatcher 57 = .ok (.iastore, 1) := by decide +kernel
theorem dX2_addWatcher_58 : decode cX2_addWatcher 58 = .ok (.aload_n 0, 1) := by decide +kernel
theorem dX2_addWatcher_59 : decode cX2_addWatcher 59 = .ok (.dup, 1) := by decide +kernel
theorem dX2_addWatcher_60 : decode cX2_addWatcher 60 = .ok (.getfield 40, 3) := by decide +kernel
theorem dX2_addWatcher_63 : decode cX2_addWatcher 63 = .ok (.iconst 1, 1) := by decide +kernel
theorem dX2_addWatcher_64 : decode cX2_addWatcher 64 = .ok (.iadd, 1) := by decide +kernel
theorem dX2_addWatcher_65 : decode cX2_addWatcher 65 = .ok (.putfield 40, 3) := by decide +kernel
theorem dX2_addWatcher_68 : decode cX2_addWatcher 68 = .ok (.return_, 1) := by decide +kernel
theorem dX2_addSleeper_0 : decode cX2_addSleeper 0 = .ok (.aload_n 0, 1) := by decide +kernel
theorem dX2_addSleeper_1 : decode cX2_addSleeper 1 = .ok (.getfield 43, 3) := by decide +kernel
theorem dX2_addSleeper_4 : decode cX2_addSleeper 4 = .ok (.ifCond .lt 12, 3) := by decide +kernel
theorem dX2_addSleeper_7 : decode cX2_addSleeper 7 = .ok (.aload_n 0, 1) := by decide +kernel
theorem dX2_addSleeper_8 : decode cX2_addSleeper 8 = .ok (.getfield 43, 3) := by decide +kernel
theorem dX2_addSleeper_11 : decode cX2_addSleeper 11 = .ok (.bipush 8, 2) := by decide +kernel
theorem dX2_addSleeper_13 : decode cX2_addSleeper 13 = .ok (.if_icmp .lt 4, 3) := by decide +kernel
theorem dX2_addSleeper_16 : decode cX2_addSleeper 16 = .ok (.return_, 1) := by decide +kernel
theorem dX2_addSleeper_17 : decode cX2_addSleeper 17 = .ok (.aload_n 0, 1) := by decide +kernel
theorem dX2_addSleeper_18 : decode cX2_addSleeper 18 = .ok (.getfield 24, 3) := by decide +kernel
theorem dX2_addSleeper_21 : decode cX2_addSleeper 21 = .ok (.aload_n 0, 1) := by decide +kernel
theorem dX2_addSleeper_22 : decode cX2_addSleeper 22 = .ok (.getfield 43, 3) := by decide +kernel
theorem dX2_addSleeper_25 : decode cX2_addSleeper 25 = .ok (.iload_n 1, 1) := by decide +kernel
theorem dX2_addSleeper_26 : decode cX2_addSleeper 26 = .ok (.iastore, 1) := by decide +kernel
theorem dX2_addSleeper_27 : decode cX2_addSleeper 27 = .ok (.aload_n 0, 1) := by decide +kernel
theorem dX2_addSleeper_28 : decode cX2_addSleeper 28 = .ok (.dup, 1) := by decide +kernel
theorem dX2_addSleeper_29 : decode cX2_addSleeper 29 = .ok (.getfield 43, 3) := by decide +kernel
theorem dX2_addSleeper_32 : decode cX2_addSleeper 32 = .ok (.iconst 1, 1) := by decide +kernel
theorem dX2_addSleeper_33 : decode cX2_addSleeper 33 = .ok (.iadd, 1) := by decide +kernel
theorem dX2_addSleeper_34 : decode cX2_addSleeper 34 = .ok (.putfield 43, 3) := by decide +kernel
theorem dX2_addSleeper_37 : decode cX2_addSleeper 37 = .ok (.return_, 1) := by decide +kernel
theorem dX2_spendHour_0 : decode cX2_spendHour 0 = .ok (.iconst 0, 1) := by decide +kernel
theorem dX2_spendHour_1 : decode cX2_spendHour 1 = .ok (.istore 4, 2) := by decide +kernel
theorem dX2_spendHour_3 : decode cX2_spendHour 3 = .ok (.iconst 0, 1) := by decide +kernel
theorem dX2_spendHour_4 : decode cX2_spendHour 4 = .ok (.istore 5, 2) := by decide +kernel
theorem dX2_spendHour_6 : decode cX2_spendHour 6 = .ok (.iload 5, 2) := by decide +kernel
theorem dX2_spendHour_8 : decode cX2_spendHour 8 = .ok (.aload_n 0, 1) := by decide +kernel
theorem dX2_spendHour_9 : decode cX2_spendHour 9 = .ok (.getfield 40, 3) := by decide +kernel
theorem dX2_spendHour_12 : decode cX2_spendHour 12 = .ok (.if_icmp .ge 117, 3) := by decide +kernel
theorem dX2_spendHour_15 : decode cX2_spendHour 15 = .ok (.iload 5, 2) := by decide +kernel
theorem dX2_spendHour_17 : decode cX2_spendHour 17 = .ok (.bipush 6, 2) := by decide +kernel
theorem dX2_spendHour_19 : decode cX2_spendHour 19 = .ok (.if_icmp .ge 110, 3) := by decide +kernel
theorem dX2_spendHour_22 : decode cX2_spendHour 22 = .ok (.iload_n 2, 1) := by decide +kernel
theorem dX2_spendHour_23 : decode cX2_spendHour 23 = .ok (.iload 5, 2) := by decide +kernel
theorem dX2_spendHour_25 : decode cX2_spendHour 25 = .ok (.ishr, 1) := by decide +kernel
theorem dX2_spendHour_26 : decode cX2_spendHour 26 = .ok (.iconst 1, 1) := by decide +kernel
theorem dX2_spendHour_27 : decode cX2_spendHour 27 = .ok (.iand, 1) := by decide +kernel
theorem dX2_spendHour_28 : decode cX2_spendHour 28 = .ok (.ifCond .eq 75, 3) := by decide +kernel
theorem dX2_spendHour_31 : decode cX2_spendHour 31 = .ok (.iload_n 3, 1) := by decide +kernel
theorem dX2_spendHour_32 : decode cX2_spendHour 32 = .ok (.ifCond .eq 19, 3) := by decide +kernel
theorem dX2_spendHour_35 : decode cX2_spendHour 35 = .ok (.iconst 0, 1) := by decide +kernel
theorem dX2_spendHour_36 : decode cX2_spendHour 36 = .ok (.aload_n 1, 1) := by decide +kernel
theorem dX2_spendHour_37 : decode cX2_spendHour 37 = .ok (.iload 5, 2) := by decide +kernel
theorem dX2_spendHour_39 : decode cX2_spendHour 39 = .ok (.iaload, 1) := by decide +kernel
theorem dX2_spendHour_40 : decode cX2_spendHour 40 = .ok (.aload_n 0, 1) := by decide +kernel
theorem dX2_spendHour_41 : decode cX2_spendHour 41 = .ok (.getfield 37, 3) := by decide +kernel
theorem dX2_spendHour_44 : decode cX2_spendHour 44 = .ok (.isub, 1) := by decide +kernel
theorem dX2_spendHour_45 : decode cX2_spendHour 45 = .ok (.invokestatic 56, 3) := by decide +kernel
theorem dX2_spendHour_48 : decode cX2_spendHour 48 = .ok (.goto 7, 3) := by decide +kernel
theorem dX2_spendHour_51 : decode cX2_spendHour 51 = .ok (.aload_n 1, 1) := by decide +kernel
theorem dX2_spendHour_52 : decode cX2_spendHour 52 = .ok (.iload 5, 2) := by decide +kernel
theorem dX2_spendHour_54 : decode cX2_spendHour 54 = .ok (.iaload, 1) := by decide +kernel
theorem dX2_spendHour_55 : decode cX2_spendHour 55 = .ok (.istore 6, 2) := by decide +kernel
theorem dX2_spendHour_57 : decode cX2_spendHour 57 = .ok (.aload_n 1, 1) := by decide +kernel
theorem dX2_spendHour_58 : decode cX2_spendHour 58 = .ok (.iload 5, 2) := by decide +kernel
theorem dX2_spendHour_60 : decode cX2_spendHour 60 = .ok (.sipush 199, 3) := by decide +kernel
theorem dX2_spendHour_63 : decode cX2_spendHour 63 = .ok (.iload 6, 2) := by decide +kernel
theorem dX2_spendHour_65 : decode cX2_spendHour 65 = .ok (.aload_n 0, 1) := by decide +kernel
theorem dX2_spendHour_66 : decode cX2_spendHour 66 = .ok (.getfield 15, 3) := by decide +kernel
theorem dX2_spendHour_69 : decode cX2_spendHour 69 = .ok (.iload 5, 2) := by decide +kernel
theorem dX2_spendHour_71 : decode cX2_spendHour 71 = .ok (.iaload, 1) := by decide +kernel
theorem dX2_spendHour_72 : decode cX2_spendHour 72 = .ok (.iadd, 1) := by decide +kernel
theorem dX2_spendHour_73 : decode cX2_spendHour 73 = .ok (.invokestatic 62, 3) := by decide +kernel
theorem dX2_spendHour_76 : decode cX2_spendHour 76 = .ok (.iastore, 1) := by decide +kernel
theorem dX2_spendHour_77 : decode cX2_spendHour 77 = .ok (.aload_n 1, 1) := by decide +kernel
theorem dX2_spendHour_78 : decode cX2_spendHour 78 = .ok (.iload 5, 2) := by decide +kernel
theorem dX2_spendHour_80 : decode cX2_spendHour 80 = .ok (.iaload, 1) := by decide +kernel
theorem dX2_spendHour_81 : decode cX2_spendHour 81 = .ok (.aload_n 0, 1) := by decide +kernel
theorem dX2_spendHour_82 : decode cX2_spendHour 82 = .ok (.getfield 21, 3) := by decide +kernel
theorem dX2_spendHour_85 : decode cX2_spendHour 85 = .ok (.iload 5, 2) := by decide +kernel
theorem dX2_spendHour_87 : decode cX2_spendHour 87 = .ok (.iaload, 1) := by decide +kernel
theorem dX2_spendHour_88 : decode cX2_spendHour 88 = .ok (.if_icmp .le 12, 3) := by decide +kernel
theorem dX2_spendHour_91 : decode cX2_spendHour 91 = .ok (.iload 4, 2) := by decide +kernel
theorem dX2_spendHour_93 : decode cX2_spendHour 93 = .ok (.iconst 1, 1) := by decide +kernel
theorem dX2_spendHour_94 : decode cX2_spendHour 94 = .ok (.iload 5, 2) := by decide +kernel
theorem dX2_spendHour_96 : decode cX2_spendHour 96 = .ok (.ishl, 1) := by decide +kernel
theorem dX2_spendHour_97 : decode cX2_spendHour 97 = .ok (.ior, 1) := by decide +kernel
theorem dX2_spendHour_98 : decode cX2_spendHour 98 = .ok (.istore 4, 2) := by decide +kernel
theorem dX2_spendHour_100 : decode cX2_spendHour 100 = .ok (.goto 23, 3) := by decide +kernel
theorem dX2_spendHour_103 : decode cX2_spendHour 103 = .ok (.aload_n 1, 1) := by decide +kernel
theorem dX2_spendHour_104 : decode cX2_spendHour 104 = .ok (.iload 5, 2) := by decide +kernel
theorem dX2_spendHour_106 : decode cX2_spendHour 106 = .ok (.iconst 0, 1) := by decide +kernel
theorem dX2_spendHour_107 : decode cX2_spendHour 107 = .ok (.aload_n 1, 1) := by decide +kernel
theorem dX2_spendHour_108 : decode cX2_spendHour 108 = .ok (.iload 5, 2) := by decide +kernel
theorem dX2_spendHour_110 : decode cX2_spendHour 110 = .ok (.iaload, 1) := by decide +kernel
theorem dX2_spendHour_111 : decode cX2_spendHour 111 = .ok (.aload_n 0, 1) := by decide +kernel
theorem dX2_spendHour_112 : decode cX2_spendHour 112 = .ok (.getfield 18, 3) := by decide +kernel
theorem dX2_spendHour_115 : decode cX2_spendHour 115 = .ok (.iload 5, 2) := by decide +kernel
theorem dX2_spendHour_117 : decode cX2_spendHour 117 = .ok (.iaload, 1) := by decide +kernel
theorem dX2_spendHour_118 : decode cX2_spendHour 118 = .ok (.isub, 1) := by decide +kernel
theorem dX2_spendHour_119 : decode cX2_spendHour 119 = .ok (.invokestatic 56, 3) := by decide +kernel
theorem dX2_spendHour_122 : decode cX2_spendHour 122 = .ok (.iastore, 1) := by decide +kernel
theorem dX2_spendHour_123 : decode cX2_spendHour 123 = .ok (.iinc 5 1, 3) := by decide +kernel
theorem dX2_spendHour_126 : decode cX2_spendHour 126 = .ok (.goto (-120), 3) := by decide +kernel
theorem dX2_spendHour_129 : decode cX2_spendHour 129 = .ok (.iload 4, 2) := by decide +kernel
theorem dX2_spendHour_131 : decode cX2_spendHour 131 = .ok (.ireturn, 1) := by decide +kernel
theorem dX2_sitsUp_0 : decode cX2_sitsUp 0 = .ok (.aload_n 0, 1) := by decide +kernel
theorem dX2_sitsUp_1 : decode cX2_sitsUp 1 = .ok (.iload_n 1, 1) := by decide +kernel
theorem dX2_sitsUp_2 : decode cX2_sitsUp 2 = .ok (.invokevirtual 65, 3) := by decide +kernel
theorem dX2_sitsUp_5 : decode cX2_sitsUp 5 = .ok (.ifCond .ne 5, 3) := by decide +kernel
theorem dX2_sitsUp_8 : decode cX2_sitsUp 8 = .ok (.iconst 0, 1) := by decide +kernel
theorem dX2_sitsUp_9 : decode cX2_sitsUp 9 = .ok (.ireturn, 1) := by decide +kernel
theorem dX2_sitsUp_10 : decode cX2_sitsUp 10 = .ok (.aload_n 0, 1) := by decide +kernel
theorem dX2_sitsUp_11 : decode cX2_sitsUp 11 = .ok (.getfield 24, 3) := by decide +kernel
theorem dX2_sitsUp_14 : decode cX2_sitsUp 14 = .ok (.iload_n 1, 1) := by decide +kernel
theorem dX2_sitsUp_15 : decode cX2_sitsUp 15 = .ok (.iaload, 1) := by decide +kernel
theorem dX2_sitsUp_16 : decode cX2_sitsUp 16 = .ok (.iload_n 2, 1) := by decide +kernel
theorem dX2_sitsUp_17 : decode cX2_sitsUp 17 = .ok (.iand, 1) := by decide +kernel
theorem dX2_sitsUp_18 : decode cX2_sitsUp 18 = .ok (.istore 4, 2) := by decide +kernel
theorem dX2_sitsUp_20 : decode cX2_sitsUp 20 = .ok (.iload 4, 2) := by decide +kernel
theorem dX2_sitsUp_22 : decode cX2_sitsUp 22 = .ok (.ifCond .ne 7, 3) := by decide +kernel
theorem dX2_sitsUp_25 : decode cX2_sitsUp 25 = .ok (.iload_n 2, 1) := by decide +kernel
theorem dX2_sitsUp_26 : decode cX2_sitsUp 26 = .ok (.goto 5, 3) := by decide +kernel
theorem dX2_sitsUp_29 : decode cX2_sitsUp 29 = .ok (.iload 4, 2) := by decide +kernel
theorem dX2_sitsUp_31 : decode cX2_sitsUp 31 = .ok (.istore 5, 2) := by decide +kernel
theorem dX2_sitsUp_33 : decode cX2_sitsUp 33 = .ok (.iload 5, 2) := by decide +kernel
theorem dX2_sitsUp_35 : decode cX2_sitsUp 35 = .ok (.iload_n 3, 1) := by decide +kernel
theorem dX2_sitsUp_36 : decode cX2_sitsUp 36 = .ok (.iconst (-1), 1) := by decide +kernel
theorem dX2_sitsUp_37 : decode cX2_sitsUp 37 = .ok (.ixor, 1) := by decide +kernel
theorem dX2_sitsUp_38 : decode cX2_sitsUp 38 = .ok (.iand, 1) := by decide +kernel
theorem dX2_sitsUp_39 : decode cX2_sitsUp 39 = .ok (.ifCond .ne 7, 3) := by decide +kernel
theorem dX2_sitsUp_42 : decode cX2_sitsUp 42 = .ok (.iconst 1, 1) := by decide +kernel
theorem dX2_sitsUp_43 : decode cX2_sitsUp 43 = .ok (.goto 4, 3) := by decide +kernel
theorem dX2_sitsUp_46 : decode cX2_sitsUp 46 = .ok (.iconst 0, 1) := by decide +kernel
theorem dX2_sitsUp_47 : decode cX2_sitsUp 47 = .ok (.ireturn, 1) := by decide +kernel
theorem dX2_allSittingUp_0 : decode cX2_allSittingUp 0 = .ok (.iconst 0, 1) := by decide +kernel
theorem dX2_allSittingUp_1 : decode cX2_allSittingUp 1 = .ok (.istore_n 3, 1) := by decide +kernel
theorem dX2_allSittingUp_2 : decode cX2_allSittingUp 2 = .ok (.iconst 0, 1) := by decide +kernel
theorem dX2_allSittingUp_3 : decode cX2_allSittingUp 3 = .ok (.istore 4, 2) := by decide +kernel
theorem dX2_allSittingUp_5 : decode cX2_allSittingUp 5 = .ok (.iload 4, 2) := by decide +kernel
theorem dX2_allSittingUp_7 : decode cX2_allSittingUp 7 = .ok (.aload_n 0, 1) := by decide +kernel
theorem dX2_allSittingUp_8 : decode cX2_allSittingUp 8 = .ok (.getfield 43, 3) := by decide +kernel
theorem dX2_allSittingUp_11 : decode cX2_allSittingUp 11 = .ok (.if_icmp .ge 34, 3) := by decide +kernel
theorem dX2_allSittingUp_14 : decode cX2_allSittingUp 14 = .ok (.iload 4, 2) := by decide +kernel
theorem dX2_allSittingUp_16 : decode cX2_allSittingUp 16 = .ok (.bipush 8, 2) := by decide +kernel
theorem dX2_allSittingUp_18 : decode cX2_allSittingUp 18 = .ok (.if_icmp .ge 27, 3) := by decide +kernel
theorem dX2_allSittingUp_21 : decode cX2_allSittingUp 21 = .ok (.aload_n 0, 1) := by decide +kernel
theorem dX2_allSittingUp_22 : decode cX2_allSittingUp 22 = .ok (.iload 4, 2) := by decide +kernel
theorem dX2_allSittingUp_24 : decode cX2_allSittingUp 24 = .ok (.iload_n 1, 1) := by decide +kernel
theorem dX2_allSittingUp_25 : decode cX2_allSittingUp 25 = .ok (.iload_n 2, 1) := by decide +kernel
theorem dX2_allSittingUp_26 : decode cX2_allSittingUp 26 = .ok (.invokevirtual 69, 3) := by decide +kernel
theorem dX2_allSittingUp_29 : decode cX2_allSittingUp 29 = .ok (.ifCond .eq 10, 3) := by decide +kernel
theorem dX2_allSittingUp_32 : decode cX2_allSittingUp 32 = .ok (.iload_n 3, 1) := by decide +kernel
theorem dX2_allSittingUp_33 : decode cX2_allSittingUp 33 = .ok (.iconst 1, 1) := by decide +kernel
theorem dX2_allSittingUp_34 : decode cX2_allSittingUp 34 = .ok (.iload 4, 2) := by decide +kernel
theorem dX2_allSittingUp_36 : decode cX2_allSittingUp 36 = .ok (.ishl, 1) := by decide +kernel
theorem dX2_allSittingUp_37 : decode cX2_allSittingUp 37 = .ok (.ior, 1) := by decide +kernel
theorem dX2_allSittingUp_38 : decode cX2_allSittingUp 38 = .ok (.istore_n 3, 1) := by decide +kernel
theorem dX2_allSittingUp_39 : decode cX2_allSittingUp 39 = .ok (.iinc 4 1, 3) := by decide +kernel
theorem dX2_allSittingUp_42 : decode cX2_allSittingUp 42 = .ok (.goto (-37), 3) := by decide +kernel
theorem dX2_allSittingUp_45 : decode cX2_allSittingUp 45 = .ok (.iload_n 3, 1) := by decide +kernel
theorem dX2_allSittingUp_46 : decode cX2_allSittingUp 46 = .ok (.ireturn, 1) := by decide +kernel
theorem dX3_init_0 : decode cX3_init 0 = .ok (.aload_n 0, 1) := by decide +kernel
theorem dX3_init_1 : decode cX3_init 1 = .ok (.invokespecial 1, 3) := by decide +kernel
theorem dX3_init_4 : decode cX3_init 4 = .ok (.return_, 1) := by decide +kernel
theorem dX3_draw_0 : decode cX3_draw 0 = .ok (.aload_n 0, 1) := by decide +kernel
theorem dX3_draw_1 : decode cX3_draw 1 = .ok (.aload_n 0, 1) := by decide +kernel
theorem dX3_draw_2 : decode cX3_draw 2 = .ok (.getfield 7, 3) := by decide +kernel
theorem dX3_draw_5 : decode cX3_draw 5 = .ok (.i2l, 1) := by decide +kernel
theorem dX3_draw_6 : decode cX3_draw 6 = .ok (.ldc2_w 13, 3) := by decide +kernel
theorem dX3_draw_9 : decode cX3_draw 9 = .ok (.lmul, 1) := by decide +kernel
theorem dX3_draw_10 : decode cX3_draw 10 = .ok (.ldc2_w 15, 3) := by decide +kernel
theorem dX3_draw_13 : decode cX3_draw 13 = .ok (.ladd, 1) := by decide +kernel
theorem dX3_draw_14 : decode cX3_draw 14 = .ok (.ldc2_w 17, 3) := by decide +kernel
theorem dX3_draw_17 : decode cX3_draw 17 = .ok (.land, 1) := by decide +kernel
theorem dX3_draw_18 : decode cX3_draw 18 = .ok (.l2i, 1) := by decide +kernel
theorem dX3_draw_19 : decode cX3_draw 19 = .ok (.putfield 7, 3) := by decide +kernel
theorem dX3_draw_22 : decode cX3_draw 22 = .ok (.iload_n 1, 1) := by decide +kernel
theorem dX3_draw_23 : decode cX3_draw 23 = .ok (.ifCond .gt 5, 3) := by decide +kernel
theorem dX3_draw_26 : decode cX3_draw 26 = .ok (.iconst 0, 1) := by decide +kernel
theorem dX3_draw_27 : decode cX3_draw 27 = .ok (.ireturn, 1) := by decide +kernel
theorem dX3_draw_28 : decode cX3_draw 28 = .ok (.aload_n 0, 1) := by decide +kernel
theorem dX3_draw_29 : decode cX3_draw 29 = .ok (.getfield 7, 3) := by decide +kernel
theorem dX3_draw_32 : decode cX3_draw 32 = .ok (.ldc 19, 2) := by decide +kernel
theorem dX3_draw_34 : decode cX3_draw 34 = .ok (.idiv, 1) := by decide +kernel
theorem dX3_draw_35 : decode cX3_draw 35 = .ok (.iload_n 1, 1) := by decide +kernel
theorem dX3_draw_36 : decode cX3_draw 36 = .ok (.irem, 1) := by decide +kernel
theorem dX3_draw_37 : decode cX3_draw 37 = .ok (.ireturn, 1) := by decide +kernel
theorem dX4_init_0 : decode cX4_init 0 = .ok (.aload_n 0, 1) := by decide +kernel
theorem dX4_init_1 : decode cX4_init 1 = .ok (.invokespecial 3, 3) := by decide +kernel
theorem dX4_init_4 : decode cX4_init 4 = .ok (.aload_n 0, 1) := by decide +kernel
theorem dX4_init_5 : decode cX4_init 5 = .ok (.bipush 20, 2) := by decide +kernel
theorem dX4_init_7 : decode cX4_init 7 = .ok (.anewarray 9, 3) := by decide +kernel
theorem dX4_init_10 : decode cX4_init 10 = .ok (.putfield 11, 3) := by decide +kernel
theorem dX4_init_13 : decode cX4_init 13 = .ok (.iconst 0, 1) := by decide +kernel
theorem dX4_init_14 : decode cX4_init 14 = .ok (.istore_n 1, 1) := by decide +kernel
theorem dX4_init_15 : decode cX4_init 15 = .ok (.iload_n 1, 1) := by decide +kernel
theorem dX4_init_16 : decode cX4_init 16 = .ok (.bipush 20, 2) := by decide +kernel
theorem dX4_init_18 : decode cX4_init 18 = .ok (.if_icmp .ge 22, 3) := by decide +kernel
theorem dX4_init_21 : decode cX4_init 21 = .ok (.aload_n 0, 1) := by decide +kernel
theorem dX4_init_22 : decode cX4_init 22 = .ok (.getfield 11, 3) := by decide +kernel
theorem dX4_init_25 : decode cX4_init 25 = .ok (.iload_n 1, 1) := by decide +kernel
theorem dX4_init_26 : decode cX4_init 26 = .ok (.new 9, 3) := by decide +kernel
theorem dX4_init_29 : decode cX4_init 29 = .ok (.dup, 1) := by decide +kernel
theorem dX4_init_30 : decode cX4_init 30 = .ok (.invokespecial 17, 3) := by decide +kernel
theorem dX4_init_33 : decode cX4_init 33 = .ok (.aastore, 1) := by decide +kernel
theorem dX4_init_34 : decode cX4_init 34 = .ok (.iinc 1 1, 3) := by decide +kernel
theorem dX4_init_37 : decode cX4_init 37 = .ok (.goto (-22), 3) := by decide +kernel
theorem dX4_init_40 : decode cX4_init 40 = .ok (.return_, 1) := by decide +kernel
theorem dX4_clear_0 : decode cX4_clear 0 = .ok (.aload_n 0, 1) := by decide +kernel
theorem dX4_clear_1 : decode cX4_clear 1 = .ok (.iconst 0, 1) := by decide +kernel
theorem dX4_clear_2 : decode cX4_clear 2 = .ok (.putfield 18, 3) := by decide +kernel
theorem dX4_clear_5 : decode cX4_clear 5 = .ok (.aload_n 0, 1) := by decide +kernel
theorem dX4_clear_6 : decode cX4_clear 6 = .ok (.iconst 0, 1) := by decide +kernel
theorem dX4_clear_7 : decode cX4_clear 7 = .ok (.putfield 22, 3) := by decide +kernel
theorem dX4_clear_10 : decode cX4_clear 10 = .ok (.return_, 1) := by decide +kernel
theorem dX4_remember_0 : decode cX4_remember 0 = .ok (.aload_n 0, 1) := by decide +kernel
theorem dX4_remember_1 : decode cX4_remember 1 = .ok (.getfield 22, 3) := by decide +kernel
theorem dX4_remember_4 : decode cX4_remember 4 = .ok (.ifCond .lt 24, 3) := by decide +kernel
theorem dX4_remember_7 : decode cX4_remember 7 = .ok (.aload_n 0, 1) := by decide +kernel
theorem dX4_remember_8 : decode cX4_remember 8 = .ok (.getfield 22, 3) := by decide +kernel
theorem dX4_remember_11 : decode cX4_remember 11 = .ok (.bipush 20, 2) := by decide +kernel
theorem dX4_remember_13 : decode cX4_remember 13 = .ok (.if_icmp .ge 15, 3) := by decide +kernel
theorem dX4_remember_16 : decode cX4_remember 16 = .ok (.aload_n 0, 1) := by decide +kernel
theorem dX4_remember_17 : decode cX4_remember 17 = .ok (.getfield 11, 3) := by decide +kernel
theorem dX4_remember_20 : decode cX4_remember 20 = .ok (.aload_n 0, 1) := by decide +kernel
theorem dX4_remember_21 : decode cX4_remember 21 = .ok (.getfield 22, 3) := by decide +kernel
theorem dX4_remember_24 : decode cX4_remember 24 = .ok (.aaload, 1) := by decide +kernel
theorem dX4_remember_25 : decode cX4_remember 25 = .ok (.ifnonnull 4, 3) := by decide +kernel
theorem dX4_remember_28 : decode cX4_remember 28 = .ok (.return_, 1) := by decide +kernel
theorem dX4_remember_29 : decode cX4_remember 29 = .ok (.aload_n 0, 1) := by decide +kernel
theorem dX4_remember_30 : decode cX4_remember 30 = .ok (.getfield 11, 3) := by decide +kernel
theorem dX4_remember_33 : decode cX4_remember 33 = .ok (.aload_n 0, 1) := by decide +kernel
theorem dX4_remember_34 : decode cX4_remember 34 = .ok (.getfield 22, 3) := by decide +kernel
theorem dX4_remember_37 : decode cX4_remember 37 = .ok (.aaload, 1) := by decide +kernel
theorem dX4_remember_38 : decode cX4_remember 38 = .ok (.aload_n 1, 1) := by decide +kernel
theorem dX4_remember_39 : decode cX4_remember 39 = .ok (.invokevirtual 25, 3) := by decide +kernel
theorem dX4_remember_42 : decode cX4_remember 42 = .ok (.aload_n 0, 1) := by decide +kernel
theorem dX4_remember_43 : decode cX4_remember 43 = .ok (.aload_n 0, 1) := by decide +kernel
theorem dX4_remember_44 : decode cX4_remember 44 = .ok (.getfield 22, 3) := by decide +kernel
theorem dX4_remember_47 : decode cX4_remember 47 = .ok (.iconst 1, 1) := by decide +kernel
theorem dX4_remember_48 : decode cX4_remember 48 = .ok (.iadd, 1) := by decide +kernel
theorem dX4_remember_49 : decode cX4_remember 49 = .ok (.bipush 20, 2) := by decide +kernel
theorem dX4_remember_51 : decode cX4_remember 51 = .ok (.irem, 1) := by decide +kernel
theorem dX4_remember_52 : decode cX4_remember 52 = .ok (.putfield 22, 3) := by decide +kernel
theorem dX4_remember_55 : decode cX4_remember 55 = .ok (.aload_n 0, 1) := by decide +kernel
theorem dX4_remember_56 : decode cX4_remember 56 = .ok (.bipush 20, 2) := by decide +kernel
theorem dX4_remember_58 : decode cX4_remember 58 = .ok (.aload_n 0, 1) := by decide +kernel
theorem dX4_remember_59 : decode cX4_remember 59 = .ok (.getfield 18, 3) := by decide +kernel
theorem dX4_remember_62 : decode cX4_remember 62 = .ok (.iconst 1, 1) := by decide +kernel
theorem dX4_remember_63 : decode cX4_remember 63 = .ok (.iadd, 1) := by decide +kernel
theorem dX4_remember_64 : decode cX4_remember 64 = .ok (.invokestatic 29, 3) := by decide +kernel
theorem dX4_remember_67 : decode cX4_remember 67 = .ok (.putfield 18, 3) := by decide +kernel
theorem dX4_remember_70 : decode cX4_remember 70 = .ok (.return_, 1) := by decide +kernel
theorem dX4_recall_0 : decode cX4_recall 0 = .ok (.aload_n 0, 1) := by decide +kernel
theorem dX4_recall_1 : decode cX4_recall 1 = .ok (.getfield 18, 3) := by decide +kernel
theorem dX4_recall_4 : decode cX4_recall 4 = .ok (.ifCond .gt 5, 3) := by decide +kernel
theorem dX4_recall_7 : decode cX4_recall 7 = .ok (.iconst 0, 1) := by decide +kernel
theorem dX4_recall_8 : decode cX4_recall 8 = .ok (.ireturn, 1) := by decide +kernel
theorem dX4_recall_9 : decode cX4_recall 9 = .ok (.aload_n 0, 1) := by decide +kernel
theorem dX4_recall_10 : decode cX4_recall 10 = .ok (.getfield 22, 3) := by decide +kernel
theorem dX4_recall_13 : decode cX4_recall 13 = .ok (.bipush 20, 2) := by decide +kernel
theorem dX4_recall_15 : decode cX4_recall 15 = .ok (.iadd, 1) := by decide +kernel
theorem dX4_recall_16 : decode cX4_recall 16 = .ok (.iconst 1, 1) := by decide +kernel
theorem dX4_recall_17 : decode cX4_recall 17 = .ok (.isub, 1) := by decide +kernel
theorem dX4_recall_18 : decode cX4_recall 18 = .ok (.bipush 20, 2) := by decide +kernel
theorem dX4_recall_20 : decode cX4_recall 20 = .ok (.irem, 1) := by decide +kernel
theorem dX4_recall_21 : decode cX4_recall 21 = .ok (.istore_n 2, 1) := by decide +kernel
theorem dX4_recall_22 : decode cX4_recall 22 = .ok (.iload_n 2, 1) := by decide +kernel
theorem dX4_recall_23 : decode cX4_recall 23 = .ok (.ifCond .lt 12, 3) := by decide +kernel
theorem dX4_recall_26 : decode cX4_recall 26 = .ok (.aload_n 0, 1) := by decide +kernel
theorem dX4_recall_27 : decode cX4_recall 27 = .ok (.getfield 11, 3) := by decide +kernel
theorem dX4_recall_30 : decode cX4_recall 30 = .ok (.iload_n 2, 1) := by decide +kernel
theorem dX4_recall_31 : decode cX4_recall 31 = .ok (.aaload, 1) := by decide +kernel
theorem dX4_recall_32 : decode cX4_recall 32 = .ok (.ifnonnull 5, 3) := by decide +kernel
theorem dX4_recall_35 : decode cX4_recall 35 = .ok (.iconst 0, 1) := by decide +kernel
theorem dX4_recall_36 : decode cX4_recall 36 = .ok (.ireturn, 1) := by decide +kernel
theorem dX4_recall_37 : decode cX4_recall 37 = .ok (.aload_n 1, 1) := by decide +kernel
theorem dX4_recall_38 : decode cX4_recall 38 = .ok (.aload_n 0, 1) := by decide +kernel
theorem dX4_recall_39 : decode cX4_recall 39 = .ok (.getfield 11, 3) := by decide +kernel
theorem dX4_recall_42 : decode cX4_recall 42 = .ok (.iload_n 2, 1) := by decide +kernel
theorem dX4_recall_43 : decode cX4_recall 43 = .ok (.aaload, 1) := by decide +kernel
theorem dX4_recall_44 : decode cX4_recall 44 = .ok (.invokevirtual 25, 3) := by decide +kernel
theorem dX4_recall_47 : decode cX4_recall 47 = .ok (.aload_n 0, 1) := by decide +kernel
theorem dX4_recall_48 : decode cX4_recall 48 = .ok (.iload_n 2, 1) := by decide +kernel
theorem dX4_recall_49 : decode cX4_recall 49 = .ok (.putfield 22, 3) := by decide +kernel
theorem dX4_recall_52 : decode cX4_recall 52 = .ok (.aload_n 0, 1) := by decide +kernel
theorem dX4_recall_53 : decode cX4_recall 53 = .ok (.dup, 1) := by decide +kernel
theorem dX4_recall_54 : decode cX4_recall 54 = .ok (.getfield 18, 3) := by decide +kernel
theorem dX4_recall_57 : decode cX4_recall 57 = .ok (.iconst 1, 1) := by decide +kernel
theorem dX4_recall_58 : decode cX4_recall 58 = .ok (.isub, 1) := by decide +kernel
theorem dX4_recall_59 : decode cX4_recall 59 = .ok (.putfield 18, 3) := by decide +kernel
theorem dX4_recall_62 : decode cX4_recall 62 = .ok (.iconst 1, 1) := by decide +kernel
theorem dX4_recall_63 : decode cX4_recall 63 = .ok (.ireturn, 1) := by decide +kernel
theorem dX5_init_0 : decode cX5_init 0 = .ok (.aload_n 0, 1) := by decide +kernel
theorem dX5_init_1 : decode cX5_init 1 = .ok (.invokespecial 3, 3) := by decide +kernel
theorem dX5_init_4 : decode cX5_init 4 = .ok (.aload_n 0, 1) := by decide +kernel
theorem dX5_init_5 : decode cX5_init 5 = .ok (.new 9, 3) := by decide +kernel
theorem dX5_init_8 : decode cX5_init 8 = .ok (.dup, 1) := by decide +kernel
theorem dX5_init_9 : decode cX5_init 9 = .ok (.invokespecial 11, 3) := by decide +kernel
theorem dX5_init_12 : decode cX5_init 12 = .ok (.putfield 12, 3) := by decide +kernel
theorem dX5_init_15 : decode cX5_init 15 = .ok (.aload_n 0, 1) := by decide +kernel
theorem dX5_init_16 : decode cX5_init 16 = .ok (.iconst (-1), 1) := by decide +kernel
theorem dX5_init_17 : decode cX5_init 17 = .ok (.putfield 18, 3) := by decide +kernel
theorem dX5_init_20 : decode cX5_init 20 = .ok (.aload_n 0, 1) := by decide +kernel
theorem dX5_init_21 : decode cX5_init 21 = .ok (.sipush 220, 3) := by decide +kernel
theorem dX5_init_24 : decode cX5_init 24 = .ok (.newarray .int, 2) := by decide +kernel
theorem dX5_init_26 : decode cX5_init 26 = .ok (.putfield 22, 3) := by decide +kernel
theorem dX5_init_29 : decode cX5_init 29 = .ok (.return_, 1) := by decide +kernel
theorem dX5_append_0 : decode cX5_append 0 = .ok (.aload_n 0, 1) := by decide +kernel
theorem dX5_append_1 : decode cX5_append 1 = .ok (.getfield 26, 3) := by decide +kernel
theorem dX5_append_4 : decode cX5_append 4 = .ok (.ifCond .lt 13, 3) := by decide +kernel
theorem dX5_append_7 : decode cX5_append 7 = .ok (.aload_n 0, 1) := by decide +kernel
theorem dX5_append_8 : decode cX5_append 8 = .ok (.getfield 26, 3) := by decide +kernel
theorem dX5_append_11 : decode cX5_append 11 = .ok (.sipush 220, 3) := by decide +kernel
theorem dX5_append_14 : decode cX5_append 14 = .ok (.if_icmp .lt 5, 3) := by decide +kernel
theorem dX5_append_17 : decode cX5_append 17 = .ok (.iconst 0, 1) := by decide +kernel
theorem dX5_append_18 : decode cX5_append 18 = .ok (.ireturn, 1) := by decide +kernel
theorem dX5_append_19 : decode cX5_append 19 = .ok (.aload_n 0, 1) := by decide +kernel
theorem dX5_append_20 : decode cX5_append 20 = .ok (.getfield 22, 3) := by decide +kernel
theorem dX5_append_23 : decode cX5_append 23 = .ok (.aload_n 0, 1) := by decide +kernel
theorem dX5_append_24 : decode cX5_append 24 = .ok (.getfield 26, 3) := by decide +kernel
theorem dX5_append_27 : decode cX5_append 27 = .ok (.iload_n 1, 1) := by decide +kernel
theorem dX5_append_28 : decode cX5_append 28 = .ok (.iastore, 1) := by decide +kernel
theorem dX5_append_29 : decode cX5_append 29 = .ok (.aload_n 0, 1) := by decide +kernel
theorem dX5_append_30 : decode cX5_append 30 = .ok (.dup, 1) := by decide +kernel
theorem dX5_append_31 : decode cX5_append 31 = .ok (.getfield 26, 3) := by decide +kernel
theorem dX5_append_34 : decode cX5_append 34 = .ok (.iconst 1, 1) := by decide +kernel
theorem dX5_append_35 : decode cX5_append 35 = .ok (.iadd, 1) := by decide +kernel
theorem dX5_append_36 : decode cX5_append 36 = .ok (.putfield 26, 3) := by decide +kernel
theorem dX5_append_39 : decode cX5_append 39 = .ok (.iconst 1, 1) := by decide +kernel
theorem dX5_append_40 : decode cX5_append 40 = .ok (.ireturn, 1) := by decide +kernel
theorem dX5_readText_0 : decode cX5_readText 0 = .ok (.aload_n 0, 1) := by decide +kernel
theorem dX5_readText_1 : decode cX5_readText 1 = .ok (.getfield 12, 3) := by decide +kernel
theorem dX5_readText_4 : decode cX5_readText 4 = .ok (.invokevirtual 29, 3) := by decide +kernel
theorem dX5_readText_7 : decode cX5_readText 7 = .ok (.aload_n 0, 1) := by decide +kernel
theorem dX5_readText_8 : decode cX5_readText 8 = .ok (.iconst 0, 1) := by decide +kernel
theorem dX5_readText_9 : decode cX5_readText 9 = .ok (.putfield 32, 3) := by decide +kernel
theorem dX5_readText_12 : decode cX5_readText 12 = .ok (.aload_n 0, 1) := by decide +kernel
theorem dX5_readText_13 : decode cX5_readText 13 = .ok (.iconst 0, 1) := by decide +kernel
theorem dX5_readText_14 : decode cX5_readText 14 = .ok (.putfield 35, 3) := by decide +kernel
theorem dX5_readText_17 : decode cX5_readText 17 = .ok (.aload_n 0, 1) := by decide +kernel
theorem dX5_readText_18 : decode cX5_readText 18 = .ok (.iconst (-1), 1) := by decide +kernel
theorem dX5_readText_19 : decode cX5_readText 19 = .ok (.putfield 18, 3) := by decide +kernel
theorem dX5_readText_22 : decode cX5_readText 22 = .ok (.aload_n 0, 1) := by decide +kernel
theorem dX5_readText_23 : decode cX5_readText 23 = .ok (.invokevirtual 38, 3) := by decide +kernel
theorem dX5_readText_26 : decode cX5_readText 26 = .ok (.iconst 0, 1) := by decide +kernel
theorem dX5_readText_27 : decode cX5_readText 27 = .ok (.istore_n 1, 1) := by decide +kernel
theorem dX5_readText_28 : decode cX5_readText 28 = .ok (.iload_n 1, 1) := by decide +kernel
theorem dX5_readText_29 : decode cX5_readText 29 = .ok (.sipush 220, 3) := by decide +kernel
theorem dX5_readText_32 : decode cX5_readText 32 = .ok (.if_icmp .ge 35, 3) := by decide +kernel
theorem dX5_readText_35 : decode cX5_readText 35 = .ok (.aload_n 0, 1) := by decide +kernel
theorem dX5_readText_36 : decode cX5_readText 36 = .ok (.getfield 32, 3) := by decide +kernel
theorem dX5_readText_39 : decode cX5_readText 39 = .ok (.aload_n 0, 1) := by decide +kernel
theorem dX5_readText_40 : decode cX5_readText 40 = .ok (.getfield 26, 3) := by decide +kernel
theorem dX5_readText_43 : decode cX5_readText 43 = .ok (.if_icmp .ge 24, 3) := by decide +kernel
theorem dX5_readText_46 : decode cX5_readText 46 = .ok (.aload_n 0, 1) := by decide +kernel
theorem dX5_readText_47 : decode cX5_readText 47 = .ok (.getfield 35, 3) := by decide +kernel
theorem dX5_readText_50 : decode cX5_readText 50 = .ok (.ifCond .ne 17, 3) := by decide +kernel
theorem dX5_readText_53 : decode cX5_readText 53 = .ok (.aload_n 0, 1) := by decide +kernel
theorem dX5_readText_54 : decode cX5_readText 54 = .ok (.invokevirtual 41, 3) := by decide +kernel
theorem dX5_readText_57 : decode cX5_readText 57 = .ok (.aload_n 0, 1) := by decide +kernel
theorem dX5_readText_58 : decode cX5_readText 58 = .ok (.invokevirtual 38, 3) := by decide +kernel
theorem dX5_readText_61 : decode cX5_readText 61 = .ok (.iinc 1 1, 3) := by decide +kernel
theorem dX5_readText_64 : decode cX5_readText 64 = .ok (.goto (-36), 3) := by decide +kernel
theorem dX5_readText_67 : decode cX5_readText 67 = .ok (.aload_n 0, 1) := by decide +kernel
theorem dX5_readText_68 : decode cX5_readText 68 = .ok (.iconst 0, 1) := by decide +kernel
theorem dX5_readText_69 : decode cX5_readText 69 = .ok (.putfield 26, 3) := by decide +kernel
theorem dX5_readText_72 : decode cX5_readText 72 = .ok (.aload_n 0, 1) := by decide +kernel
theorem dX5_readText_73 : decode cX5_readText 73 = .ok (.getfield 35, 3) := by decide +kernel
theorem dX5_readText_76 : decode cX5_readText 76 = .ok (.ireturn, 1) := by decide +kernel
theorem dX5_readClause_0 : decode cX5_readClause 0 = .ok (.aload_n 0, 1) := by decide +kernel
theorem dX5_readClause_1 : decode cX5_readClause 1 = .ok (.invokevirtual 44, 3) := by decide +kernel
theorem dX5_readClause_4 : decode cX5_readClause 4 = .ok (.istore_n 1, 1) := by decide +kernel
theorem dX5_readClause_5 : decode cX5_readClause 5 = .ok (.aload_n 0, 1) := by decide +kernel
theorem dX5_readClause_6 : decode cX5_readClause 6 = .ok (.iload_n 1, 1) := by decide +kernel
theorem dX5_readClause_7 : decode cX5_readClause 7 = .ok (.invokevirtual 48, 3) := by decide +kernel
theorem dX5_readClause_10 : decode cX5_readClause 10 = .ok (.istore_n 2, 1) := by decide +kernel
theorem dX5_readClause_11 : decode cX5_readClause 11 = .ok (.iload_n 2, 1) := by decide +kernel
theorem dX5_readClause_12 : decode cX5_readClause 12 = .ok (.ifCond .eq 13, 3) := by decide +kernel
theorem dX5_readClause_15 : decode cX5_readClause 15 = .ok (.aload_n 0, 1) := by decide +kernel
theorem dX5_readClause_16 : decode cX5_readClause 16 = .ok (.iload_n 2, 1) := by decide +kernel
theorem dX5_readClause_17 : decode cX5_readClause 17 = .ok (.aload_n 0, 1) := by decide +kernel
theorem dX5_readClause_18 : decode cX5_readClause 18 = .ok (.getfield 32, 3) := by decide +kernel
theorem dX5_readClause_21 : decode cX5_readClause 21 = .ok (.invokevirtual 52, 3) := by decide +kernel
theorem dX5_readClause_24 : decode cX5_readClause 24 = .ok (.return_, 1) := by decide +kernel
theorem dX5_readClause_25 : decode cX5_readClause 25 = .ok (.aload_n 0, 1) := by decide +kernel
theorem dX5_readClause_26 : decode cX5_readClause 26 = .ok (.dup, 1) := by decide +kernel
theorem dX5_readClause_27 : decode cX5_readClause 27 = .ok (.getfield 32, 3) := by decide +kernel
theorem dX5_readClause_30 : decode cX5_readClause 30 = .ok (.iconst 1, 1) := by decide +kernel
theorem dX5_readClause_31 : decode cX5_readClause 31 = .ok (.iadd, 1) := by decide +kernel
theorem dX5_readClause_32 : decode cX5_readClause 32 = .ok (.putfield 32, 3) := by decide +kernel
theorem dX5_readClause_35 : decode cX5_readClause 35 = .ok (.iload_n 1, 1) := by decide +kernel
theorem dX5_readClause_36 : decode cX5_readClause 36 = .ok (.bipush 107, 2) := by decide +kernel
theorem dX5_readClause_38 : decode cX5_readClause 38 = .ok (.if_icmp .ne 10, 3) := by decide +kernel
theorem dX5_readClause_41 : decode cX5_readClause 41 = .ok (.aload_n 0, 1) := by decide +kernel
theorem dX5_readClause_42 : decode cX5_readClause 42 = .ok (.invokevirtual 56, 3) := by decide +kernel
theorem dX5_readClause_45 : decode cX5_readClause 45 = .ok (.goto 20, 3) := by decide +kernel
theorem dX5_readClause_48 : decode cX5_readClause 48 = .ok (.iload_n 1, 1) := by decide +kernel
theorem dX5_readClause_49 : decode cX5_readClause 49 = .ok (.bipush 112, 2) := by decide +kernel
theorem dX5_readClause_51 : decode cX5_readClause 51 = .ok (.if_icmp .ne 10, 3) := by decide +kernel
theorem dX5_readClause_54 : decode cX5_readClause 54 = .ok (.aload_n 0, 1) := by decide +kernel
theorem dX5_readClause_55 : decode cX5_readClause 55 = .ok (.invokevirtual 59, 3) := by decide +kernel
theorem dX5_readClause_58 : decode cX5_readClause 58 = .ok (.goto 7, 3) := by decide +kernel
theorem dX5_readClause_61 : decode cX5_readClause 61 = .ok (.aload_n 0, 1) := by decide +kernel
theorem dX5_readClause_62 : decode cX5_readClause 62 = .ok (.invokevirtual 62, 3) := by decide +kernel
theorem dX5_readClause_65 : decode cX5_readClause 65 = .ok (.return_, 1) := by decide +kernel
theorem dX5_faultOfWord_0 : decode cX5_faultOfWord 0 = .ok (.aload_n 0, 1) := by decide +kernel
theorem dX5_faultOfWord_1 : decode cX5_faultOfWord 1 = .ok (.getfield 12, 3) := by decide +kernel
theorem dX5_faultOfWord_4 : decode cX5_faultOfWord 4 = .ok (.invokevirtual 65, 3) := by decide +kernel
theorem dX5_faultOfWord_7 : decode cX5_faultOfWord 7 = .ok (.ifCond .ne 7, 3) := by decide +kernel
theorem dX5_faultOfWord_10 : decode cX5_faultOfWord 10 = .ok (.iconst 1, 1) := by decide +kernel
theorem dX5_faultOfWord_11 : decode cX5_faultOfWord 11 = .ok (.goto 4, 3) := by decide +kernel
theorem dX5_faultOfWord_14 : decode cX5_faultOfWord 14 = .ok (.iconst 0, 1) := by decide +kernel
theorem dX5_faultOfWord_15 : decode cX5_faultOfWord 15 = .ok (.istore_n 2, 1) := by decide +kernel
theorem dX5_faultOfWord_16 : decode cX5_faultOfWord 16 = .ok (.iload_n 1, 1) := by decide +kernel
theorem dX5_faultOfWord_17 : decode cX5_faultOfWord 17 = .ok (.bipush 107, 2) := by decide +kernel
theorem dX5_faultOfWord_19 : decode cX5_faultOfWord 19 = .ok (.if_icmp .ne 13, 3) := by decide +kernel
theorem dX5_faultOfWord_22 : decode cX5_faultOfWord 22 = .ok (.iload_n 2, 1) := by decide +kernel
theorem dX5_faultOfWord_23 : decode cX5_faultOfWord 23 = .ok (.ifCond .eq 7, 3) := by decide +kernel
theorem dX5_faultOfWord_26 : decode cX5_faultOfWord 26 = .ok (.iconst 0, 1) := by decide +kernel
theorem dX5_faultOfWord_27 : decode cX5_faultOfWord 27 = .ok (.goto 4, 3) := by decide +kernel
theorem dX5_faultOfWord_30 : decode cX5_faultOfWord 30 = .ok (.iconst 3, 1) := by decide +kernel
theorem dX5_faultOfWord_31 : decode cX5_faultOfWord 31 = .ok (.ireturn, 1) := by decide +kernel
theorem dX5_faultOfWord_32 : decode cX5_faultOfWord 32 = .ok (.iload_n 2, 1) := by decide +kernel
theorem dX5_faultOfWord_33 : decode cX5_faultOfWord 33 = .ok (.ifCond .ne 15, 3) := by decide +kernel
theorem dX5_faultOfWord_36 : decode cX5_faultOfWord 36 = .ok (.iload_n 1, 1) := by decide +kernel
theorem dX5_faultOfWord_37 : decode cX5_faultOfWord 37 = .ok (.bipush 112, 2) := by decide +kernel
theorem dX5_faultOfWord_39 : decode cX5_faultOfWord 39 = .ok (.if_icmp .eq 11, 3) := by decide +kernel
theorem dX5_faultOfWord_42 : decode cX5_faultOfWord 42 = .ok (.iload_n 1, 1) := by decide +kernel
theorem dX5_faultOfWord_43 : decode cX5_faultOfWord 43 = .ok (.bipush 115, 2) := by decide +kernel
theorem dX5_faultOfWord_45 : decode cX5_faultOfWord 45 = .ok (.if_icmp .eq 5, 3) := by decide +kernel
theorem dX5_faultOfWord_48 : decode cX5_faultOfWord 48 = .ok (.iconst 1, 1) := by decide +kernel
theorem dX5_faultOfWord_49 : decode cX5_faultOfWord 49 = .ok (.ireturn, 1) := by decide +kernel
theorem dX5_faultOfWord_50 : decode cX5_faultOfWord 50 = .ok (.iload_n 1, 1) := by decide +kernel
theorem dX5_faultOfWord_51 : decode cX5_faultOfWord 51 = .ok (.bipush 112, 2) := by decide +kernel
theorem dX5_faultOfWord_53 : decode cX5_faultOfWord 53 = .ok (.if_icmp .ne 23, 3) := by decide +kernel
theorem dX5_faultOfWord_56 : decode cX5_faultOfWord 56 = .ok (.aload_n 0, 1) := by decide +kernel
theorem dX5_faultOfWord_57 : decode cX5_faultOfWord 57 = .ok (.getfield 12, 3) := by decide +kernel
theorem dX5_faultOfWord_60 : decode cX5_faultOfWord 60 = .ok (.getfield 69, 3) := by decide +kernel
theorem dX5_faultOfWord_63 : decode cX5_faultOfWord 63 = .ok (.bipush 6, 2) := by decide +kernel
theorem dX5_faultOfWord_65 : decode cX5_faultOfWord 65 = .ok (.if_icmp .lt 7, 3) := by decide +kernel
theorem dX5_faultOfWord_68 : decode cX5_faultOfWord 68 = .ok (.iconst 1, 1) := by decide +kernel
theorem dX5_faultOfWord_69 : decode cX5_faultOfWord 69 = .ok (.goto 24, 3) := by decide +kernel
theorem dX5_faultOfWord_72 : decode cX5_faultOfWord 72 = .ok (.iconst 0, 1) := by decide +kernel
theorem dX5_faultOfWord_73 : decode cX5_faultOfWord 73 = .ok (.goto 20, 3) := by decide +kernel
theorem dX5_faultOfWord_76 : decode cX5_faultOfWord 76 = .ok (.aload_n 0, 1) := by decide +kernel
theorem dX5_faultOfWord_77 : decode cX5_faultOfWord 77 = .ok (.getfield 12, 3) := by decide +kernel
theorem dX5_faultOfWord_80 : decode cX5_faultOfWord 80 = .ok (.getfield 72, 3) := by decide +kernel
theorem dX5_faultOfWord_83 : decode cX5_faultOfWord 83 = .ok (.bipush 8, 2) := by decide +kernel
theorem dX5_faultOfWord_85 : decode cX5_faultOfWord 85 = .ok (.if_icmp .lt 7, 3) := by decide +kernel
theorem dX5_faultOfWord_88 : decode cX5_faultOfWord 88 = .ok (.iconst 1, 1) := by decide +kernel
theorem dX5_faultOfWord_89 : decode cX5_faultOfWord 89 = .ok (.goto 4, 3) := by decide +kernel
theorem dX5_faultOfWord_92 : decode cX5_faultOfWord 92 = .ok (.iconst 0, 1) := by decide +kernel
theorem dX5_faultOfWord_93 : decode cX5_faultOfWord 93 = .ok (.istore_n 3, 1) := by decide +kernel
theorem dX5_faultOfWord_94 : decode cX5_faultOfWord 94 = .ok (.iload_n 3, 1) := by decide +kernel
theorem dX5_faultOfWord_95 : decode cX5_faultOfWord 95 = .ok (.ifCond .eq 7, 3) := by decide +kernel
theorem dX5_faultOfWord_98 : decode cX5_faultOfWord 98 = .ok (.iconst 3, 1) := by decide +kernel
theorem dX5_faultOfWord_99 : decode cX5_faultOfWord 99 = .ok (.goto 4, 3) := by decide +kernel
theorem dX5_faultOfWord_102 : decode cX5_faultOfWord 102 = .ok (.iconst 0, 1) := by decide +kernel
theorem dX5_faultOfWord_103 : decode cX5_faultOfWord 103 = .ok (.ireturn, 1) := by decide +kernel
theorem dX5_readNight_0 : decode cX5_readNight 0 = .ok (.aload_n 0, 1) := by decide +kernel
theorem dX5_readNight_1 : decode cX5_readNight 1 = .ok (.getfield 12, 3) := by decide +kernel
theorem dX5_readNight_4 : decode cX5_readNight 4 = .ok (.aload_n 0, 1) := by decide +kernel
theorem dX5_readNight_5 : decode cX5_readNight 5 = .ok (.iconst 1, 1) := by decide +kernel
theorem dX5_readNight_6 : decode cX5_readNight 6 = .ok (.bipush 6, 2) := by decide +kernel
theorem dX5_readNight_8 : decode cX5_readNight 8 = .ok (.invokevirtual 75, 3) := by decide +kernel
theorem dX5_readNight_11 : decode cX5_readNight 11 = .ok (.putfield 79, 3) := by decide +kernel
theorem dX5_readNight_14 : decode cX5_readNight 14 = .ok (.aload_n 0, 1) := by decide +kernel
theorem dX5_readNight_15 : decode cX5_readNight 15 = .ok (.getfield 12, 3) := by decide +kernel
theorem dX5_readNight_18 : decode cX5_readNight 18 = .ok (.aload_n 0, 1) := by decide +kernel
theorem dX5_readNight_19 : decode cX5_readNight 19 = .ok (.iconst 0, 1) := by decide +kernel
theorem dX5_readNight_20 : decode cX5_readNight 20 = .ok (.bipush 99, 2) := by decide +kernel
theorem dX5_readNight_22 : decode cX5_readNight 22 = .ok (.invokevirtual 75, 3) := by decide +kernel
theorem dX5_readNight_25 : decode cX5_readNight 25 = .ok (.putfield 82, 3) := by decide +kernel
theorem dX5_readNight_28 : decode cX5_readNight 28 = .ok (.aload_n 0, 1) := by decide +kernel
theorem dX5_readNight_29 : decode cX5_readNight 29 = .ok (.getfield 12, 3) := by decide +kernel
theorem dX5_readNight_32 : decode cX5_readNight 32 = .ok (.aload_n 0, 1) := by decide +kernel
theorem dX5_readNight_33 : decode cX5_readNight 33 = .ok (.iconst 0, 1) := by decide +kernel
theorem dX5_readNight_34 : decode cX5_readNight 34 = .ok (.bipush 99, 2) := by decide +kernel
theorem dX5_readNight_36 : decode cX5_readNight 36 = .ok (.invokevirtual 75, 3) := by decide +kernel
theorem dX5_readNight_39 : decode cX5_readNight 39 = .ok (.putfield 85, 3) := by decide +kernel
theorem dX5_readNight_42 : decode cX5_readNight 42 = .ok (.aload_n 0, 1) := by decide +kernel
theorem dX5_readNight_43 : decode cX5_readNight 43 = .ok (.getfield 12, 3) := by decide +kernel
theorem dX5_readNight_46 : decode cX5_readNight 46 = .ok (.aload_n 0, 1) := by decide +kernel
theorem dX5_readNight_47 : decode cX5_readNight 47 = .ok (.iconst 0, 1) := by decide +kernel
theorem dX5_readNight_48 : decode cX5_readNight 48 = .ok (.bipush 20, 2) := by decide +kernel
theorem dX5_readNight_50 : decode cX5_readNight 50 = .ok (.invokevirtual 75, 3) := by decide +kernel
theorem dX5_readNight_53 : decode cX5_readNight 53 = .ok (.putfield 88, 3) := by decide +kernel
theorem dX5_readNight_56 : decode cX5_readNight 56 = .ok (.aload_n 0, 1) := by decide +kernel
theorem dX5_readNight_57 : decode cX5_readNight 57 = .ok (.invokevirtual 91, 3) := by decide +kernel
theorem dX5_readNight_60 : decode cX5_readNight 60 = .ok (.return_, 1) := by decide +kernel
theorem dX5_readWatcher_0 : decode cX5_readWatcher 0 = .ok (.aload_n 0, 1) := by decide +kernel
theorem dX5_readWatcher_1 : decode cX5_readWatcher 1 = .ok (.iconst 0, 1) := by decide +kernel
theorem dX5_readWatcher_2 : decode cX5_readWatcher 2 = .ok (.bipush 99, 2) := by decide +kernel
theorem dX5_readWatcher_4 : decode cX5_readWatcher 4 = .ok (.invokevirtual 75, 3) := by decide +kernel
theorem dX5_readWatcher_7 : decode cX5_readWatcher 7 = .ok (.istore_n 1, 1) := by decide +kernel
theorem dX5_readWatcher_8 : decode cX5_readWatcher 8 = .ok (.aload_n 0, 1) := by decide +kernel
theorem dX5_readWatcher_9 : decode cX5_readWatcher 9 = .ok (.iconst 0, 1) := by decide +kernel
theorem dX5_readWatcher_10 : decode cX5_readWatcher 10 = .ok (.bipush 30, 2) := by decide +kernel
theorem dX5_readWatcher_12 : decode cX5_readWatcher 12 = .ok (.invokevirtual 75, 3) := by decide +kernel
theorem dX5_readWatcher_15 : decode cX5_readWatcher 15 = .ok (.istore_n 2, 1) := by decide +kernel
theorem dX5_readWatcher_16 : decode cX5_readWatcher 16 = .ok (.aload_n 0, 1) := by decide +kernel
theorem dX5_readWatcher_17 : decode cX5_readWatcher 17 = .ok (.iconst 0, 1) := by decide +kernel
theorem dX5_readWatcher_18 : decode cX5_readWatcher 18 = .ok (.bipush 30, 2) := by decide +kernel
theorem dX5_readWatcher_20 : decode cX5_readWatcher 20 = .ok (.invokevirtual 75, 3) := by decide +kernel
theorem dX5_readWatcher_23 : decode cX5_readWatcher 23 = .ok (.istore_n 3, 1) := by decide +kernel
theorem dX5_readWatcher_24 : decode cX5_readWatcher 24 = .ok (.aload_n 0, 1) := by decide +kernel
theorem dX5_readWatcher_25 : decode cX5_readWatcher 25 = .ok (.iconst 0, 1) := by decide +kernel
theorem dX5_readWatcher_26 : decode cX5_readWatcher 26 = .ok (.bipush 99, 2) := by decide +kernel
theorem dX5_readWatcher_28 : decode cX5_readWatcher 28 = .ok (.invokevirtual 75, 3) := by decide +kernel
theorem dX5_readWatcher_31 : decode cX5_readWatcher 31 = .ok (.istore 4, 2) := by decide +kernel
theorem dX5_readWatcher_33 : decode cX5_readWatcher 33 = .ok (.aload_n 0, 1) := by decide +kernel
theorem dX5_readWatcher_34 : decode cX5_readWatcher 34 = .ok (.invokevirtual 91, 3) := by decide +kernel
theorem dX5_readWatcher_37 : decode cX5_readWatcher 37 = .ok (.aload_n 0, 1) := by decide +kernel
theorem dX5_readWatcher_38 : decode cX5_readWatcher 38 = .ok (.getfield 12, 3) := by decide +kernel
theorem dX5_readWatcher_41 : decode cX5_readWatcher 41 = .ok (.iload_n 1, 1) := by decide +kernel
theorem dX5_readWatcher_42 : decode cX5_readWatcher 42 = .ok (.iload_n 2, 1) := by decide +kernel
theorem dX5_readWatcher_43 : decode cX5_readWatcher 43 = .ok (.iload_n 3, 1) := by decide +kernel
theorem dX5_readWatcher_44 : decode cX5_readWatcher 44 = .ok (.iload 4, 2) := by decide +kernel
theorem dX5_readWatcher_46 : decode cX5_readWatcher 46 = .ok (.invokevirtual 94, 3) := by decide +kernel
theorem dX5_readWatcher_49 : decode cX5_readWatcher 49 = .ok (.return_, 1) := by decide +kernel
theorem dX5_readSleeper_0 : decode cX5_readSleeper 0 = .ok (.aload_n 0, 1) := by decide +kernel
theorem dX5_readSleeper_1 : decode cX5_readSleeper 1 = .ok (.iconst 0, 1) := by decide +kernel
theorem dX5_readSleeper_2 : decode cX5_readSleeper 2 = .ok (.aload_n 0, 1) := by decide +kernel
theorem dX5_readSleeper_3 : decode cX5_readSleeper 3 = .ok (.getfield 12, 3) := by decide +kernel
theorem dX5_readSleeper_6 : decode cX5_readSleeper 6 = .ok (.invokevirtual 98, 3) := by decide +kernel
theorem dX5_readSleeper_9 : decode cX5_readSleeper 9 = .ok (.invokevirtual 75, 3) := by decide +kernel
theorem dX5_readSleeper_12 : decode cX5_readSleeper 12 = .ok (.istore_n 1, 1) := by decide +kernel
theorem dX5_readSleeper_13 : decode cX5_readSleeper 13 = .ok (.aload_n 0, 1) := by decide +kernel
theorem dX5_readSleeper_14 : decode cX5_readSleeper 14 = .ok (.invokevirtual 91, 3) := by decide +kernel
theorem dX5_readSleeper_17 : decode cX5_readSleeper 17 = .ok (.aload_n 0, 1) := by decide +kernel
theorem dX5_readSleeper_18 : decode cX5_readSleeper 18 = .ok (.getfield 12, 3) := by decide +kernel
theorem dX5_readSleeper_21 : decode cX5_readSleeper 21 = .ok (.iload_n 1, 1) := by decide +kernel
theorem dX5_readSleeper_22 : decode cX5_readSleeper 22 = .ok (.invokevirtual 101, 3) := by decide +kernel
theorem dX5_readSleeper_25 : decode cX5_readSleeper 25 = .ok (.return_, 1) := by decide +kernel
theorem dX5_readNumber_0 : decode cX5_readNumber 0 = .ok (.aload_n 0, 1) := by decide +kernel
theorem dX5_readNumber_1 : decode cX5_readNumber 1 = .ok (.getfield 35, 3) := by decide +kernel
theorem dX5_readNumber_4 : decode cX5_readNumber 4 = .ok (.ifCond .eq 5, 3) := by decide +kernel
theorem dX5_readNumber_7 : decode cX5_readNumber 7 = .ok (.iload_n 1, 1) := by decide +kernel
theorem dX5_readNumber_8 : decode cX5_readNumber 8 = .ok (.ireturn, 1) := by decide +kernel
theorem dX5_readNumber_9 : decode cX5_readNumber 9 = .ok (.aload_n 0, 1) := by decide +kernel
theorem dX5_readNumber_10 : decode cX5_readNumber 10 = .ok (.invokevirtual 38, 3) := by decide +kernel
theorem dX5_readNumber_13 : decode cX5_readNumber 13 = .ok (.aload_n 0, 1) := by decide +kernel
theorem dX5_readNumber_14 : decode cX5_readNumber 14 = .ok (.getfield 32, 3) := by decide +kernel
theorem dX5_readNumber_17 : decode cX5_readNumber 17 = .ok (.istore_n 3, 1) := by decide +kernel
theorem dX5_readNumber_18 : decode cX5_readNumber 18 = .ok (.iconst 0, 1) := by decide +kernel
theorem dX5_readNumber_19 : decode cX5_readNumber 19 = .ok (.istore 4, 2) := by decide +kernel
theorem dX5_readNumber_21 : decode cX5_readNumber 21 = .ok (.iconst 0, 1) := by decide +kernel
theorem dX5_readNumber_22 : decode cX5_readNumber 22 = .ok (.istore 5, 2) := by decide +kernel
theorem dX5_readNumber_24 : decode cX5_readNumber 24 = .ok (.aload_n 0, 1) := by decide +kernel
theorem dX5_readNumber_25 : decode cX5_readNumber 25 = .ok (.getfield 32, 3) := by decide +kernel
theorem dX5_readNumber_28 : decode cX5_readNumber 28 = .ok (.aload_n 0, 1) := by decide +kernel
theorem dX5_readNumber_29 : decode cX5_readNumber 29 = .ok (.getfield 26, 3) := by decide +kernel
theorem dX5_readNumber_32 : decode cX5_readNumber 32 = .ok (.if_icmp .ge 50, 3) := by decide +kernel
theorem dX5_readNumber_35 : decode cX5_readNumber 35 = .ok (.aload_n 0, 1) := by decide +kernel
theorem dX5_readNumber_36 : decode cX5_readNumber 36 = .ok (.invokevirtual 44, 3) := by decide +kernel
theorem dX5_readNumber_39 : decode cX5_readNumber 39 = .ok (.invokestatic 105, 3) := by decide +kernel
theorem dX5_readNumber_42 : decode cX5_readNumber 42 = .ok (.ifCond .eq 40, 3) := by decide +kernel
theorem dX5_readNumber_45 : decode cX5_readNumber 45 = .ok (.iinc 5 1, 3) := by decide +kernel
theorem dX5_readNumber_48 : decode cX5_readNumber 48 = .ok (.iload 5, 2) := by decide +kernel
theorem dX5_readNumber_50 : decode cX5_readNumber 50 = .ok (.iconst 3, 1) := by decide +kernel
theorem dX5_readNumber_51 : decode cX5_readNumber 51 = .ok (.if_icmp .gt 18, 3) := by decide +kernel
theorem dX5_readNumber_54 : decode cX5_readNumber 54 = .ok (.iload 4, 2) := by decide +kernel
theorem dX5_readNumber_56 : decode cX5_readNumber 56 = .ok (.bipush 10, 2) := by decide +kernel
theorem dX5_readNumber_58 : decode cX5_readNumber 58 = .ok (.imul, 1) := by decide +kernel
theorem dX5_readNumber_59 : decode cX5_readNumber 59 = .ok (.aload_n 0, 1) := by decide +kernel
theorem dX5_readNumber_60 : decode cX5_readNumber 60 = .ok (.invokevirtual 44, 3) := by decide +kernel
theorem dX5_readNumber_63 : decode cX5_readNumber 63 = .ok (.iadd, 1) := by decide +kernel
theorem dX5_readNumber_64 : decode cX5_readNumber 64 = .ok (.bipush 48, 2) := by decide +kernel
theorem dX5_readNumber_66 : decode cX5_readNumber 66 = .ok (.isub, 1) := by decide +kernel
theorem dX5_readNumber_67 : decode cX5_readNumber 67 = .ok (.istore 4, 2) := by decide +kernel
theorem dX5_readNumber_69 : decode cX5_readNumber 69 = .ok (.aload_n 0, 1) := by decide +kernel
theorem dX5_readNumber_70 : decode cX5_readNumber 70 = .ok (.dup, 1) := by decide +kernel
theorem dX5_readNumber_71 : decode cX5_readNumber 71 = .ok (.getfield 32, 3) := by decide +kernel
theorem dX5_readNumber_74 : decode cX5_readNumber 74 = .ok (.iconst 1, 1) := by decide +kernel
theorem dX5_readNumber_75 : decode cX5_readNumber 75 = .ok (.iadd, 1) := by decide +kernel
theorem dX5_readNumber_76 : decode cX5_readNumber 76 = .ok (.putfield 32, 3) := by decide +kernel
theorem dX5_readNumber_79 : decode cX5_readNumber 79 = .ok (.goto (-55), 3) := by decide +kernel
theorem dX5_readNumber_82 : decode cX5_readNumber 82 = .ok (.iload 5, 2) := by decide +kernel
theorem dX5_readNumber_84 : decode cX5_readNumber 84 = .ok (.ifCond .ne 12, 3) := by decide +kernel
theorem dX5_readNumber_87 : decode cX5_readNumber 87 = .ok (.aload_n 0, 1) := by decide +kernel
theorem dX5_readNumber_88 : decode cX5_readNumber 88 = .ok (.iconst 1, 1) := by decide +kernel
theorem dX5_readNumber_89 : decode cX5_readNumber 89 = .ok (.iload_n 3, 1) := by decide +kernel
theorem dX5_readNumber_90 : decode cX5_readNumber 90 = .ok (.invokevirtual 52, 3) := by decide +kernel
theorem dX5_readNumber_93 : decode cX5_readNumber 93 = .ok (.goto 27, 3) := by decide +kernel
theorem dX5_readNumber_96 : decode cX5_readNumber 96 = .ok (.iload 5, 2) := by decide +kernel
theorem dX5_readNumber_98 : decode cX5_readNumber 98 = .ok (.iconst 3, 1) := by decide +kernel
theorem dX5_readNumber_99 : decode cX5_readNumber 99 = .ok (.if_icmp .gt 15, 3) := by decide +kernel
theorem dX5_readNumber_102 : decode cX5_readNumber 102 = .ok (.iload 4, 2) := by decide +kernel
theorem dX5_readNumber_104 : decode cX5_readNumber 104 = .ok (.iload_n 1, 1) := by decide +kernel
theorem dX5_readNumber_105 : decode cX5_readNumber 105 = .ok (.if_icmp .lt 9, 3) := by decide +kernel
theorem dX5_readNumber_108 : decode cX5_readNumber 108 = .ok (.iload 4, 2) := by decide +kernel
theorem dX5_readNumber_110 : decode cX5_readNumber 110 = .ok (.iload_n 2, 1) := by decide +kernel
theorem dX5_readNumber_111 : decode cX5_readNumber 111 = .ok (.if_icmp .le 9, 3) := by decide +kernel
theorem dX5_readNumber_114 : decode cX5_readNumber 114 = .ok (.aload_n 0, 1) := by decide +kernel
theorem dX5_readNumber_115 : decode cX5_readNumber 115 = .ok (.iconst 2, 1) := by decide +kernel
theorem dX5_readNumber_116 : decode cX5_readNumber 116 = .ok (.iload_n 3, 1) := by decide +kernel
theorem dX5_readNumber_117 : decode cX5_readNumber 117 = .ok (.invokevirtual 52, 3) := by decide +kernel
theorem dX5_readNumber_120 : decode cX5_readNumber 120 = .ok (.iload 4, 2) := by decide +kernel
theorem dX5_readNumber_122 : decode cX5_readNumber 122 = .ok (.ireturn, 1) := by decide +kernel
theorem dX5_readEnd_0 : decode cX5_readEnd 0 = .ok (.aload_n 0, 1) := by decide +kernel
theorem dX5_readEnd_1 : decode cX5_readEnd 1 = .ok (.getfield 35, 3) := by decide +kernel
theorem dX5_readEnd_4 : decode cX5_readEnd 4 = .ok (.ifCond .eq 4, 3) := by decide +kernel
theorem dX5_readEnd_7 : decode cX5_readEnd 7 = .ok (.return_, 1) := by decide +kernel
theorem dX5_readEnd_8 : decode cX5_readEnd 8 = .ok (.aload_n 0, 1) := by decide +kernel
theorem dX5_readEnd_9 : decode cX5_readEnd 9 = .ok (.invokevirtual 38, 3) := by decide +kernel
theorem dX5_readEnd_12 : decode cX5_readEnd 12 = .ok (.aload_n 0, 1) := by decide +kernel
theorem dX5_readEnd_13 : decode cX5_readEnd 13 = .ok (.invokevirtual 44, 3) := by decide +kernel
theorem dX5_readEnd_16 : decode cX5_readEnd 16 = .ok (.bipush 59, 2) := by decide +kernel
theorem dX5_readEnd_18 : decode cX5_readEnd 18 = .ok (.if_icmp .ne 16, 3) := by decide +kernel
theorem dX5_readEnd_21 : decode cX5_readEnd 21 = .ok (.aload_n 0, 1) := by decide +kernel
theorem dX5_readEnd_22 : decode cX5_readEnd 22 = .ok (.dup, 1) := by decide +kernel
theorem dX5_readEnd_23 : decode cX5_readEnd 23 = .ok (.getfield 32, 3) := by decide +kernel
theorem dX5_readEnd_26 : decode cX5_readEnd 26 = .ok (.iconst 1, 1) := by decide +kernel
theorem dX5_readEnd_27 : decode cX5_readEnd 27 = .ok (.iadd, 1) := by decide +kernel
theorem dX5_readEnd_28 : decode cX5_readEnd 28 = .ok (.putfield 32, 3) := by decide +kernel
theorem dX5_readEnd_31 : decode cX5_readEnd 31 = .ok (.goto 12, 3) := by decide +kernel
theorem dX5_readEnd_34 : decode cX5_readEnd 34 = .ok (.aload_n 0, 1) := by decide +kernel
theorem dX5_readEnd_35 : decode cX5_readEnd 35 = .ok (.iconst 1, 1) := by decide +kernel
theorem dX5_readEnd_36 : decode cX5_readEnd 36 = .ok (.aload_n 0, 1) := by decide +kernel
theorem dX5_readEnd_37 : decode cX5_readEnd 37 = .ok (.getfield 32, 3) := by decide +kernel
theorem dX5_readEnd_40 : decode cX5_readEnd 40 = .ok (.invokevirtual 52, 3) := by decide +kernel
theorem dX5_readEnd_43 : decode cX5_readEnd 43 = .ok (.return_, 1) := by decide +kernel
theorem dX5_skipBlanks_0 : decode cX5_skipBlanks 0 = .ok (.aload_n 0, 1) := by decide +kernel
theorem dX5_skipBlanks_1 : decode cX5_skipBlanks 1 = .ok (.getfield 32, 3) := by decide +kernel
theorem dX5_skipBlanks_4 : decode cX5_skipBlanks 4 = .ok (.aload_n 0, 1) := by decide +kernel
theorem dX5_skipBlanks_5 : decode cX5_skipBlanks 5 = .ok (.getfield 26, 3) := by decide +kernel
theorem dX5_skipBlanks_8 : decode cX5_skipBlanks 8 = .ok (.if_icmp .ge 25, 3) := by decide +kernel
theorem dX5_skipBlanks_11 : decode cX5_skipBlanks 11 = .ok (.aload_n 0, 1) := by decide +kernel
theorem dX5_skipBlanks_12 : decode cX5_skipBlanks 12 = .ok (.invokevirtual 44, 3) := by decide +kernel
theorem dX5_skipBlanks_15 : decode cX5_skipBlanks 15 = .ok (.bipush 32, 2) := by decide +kernel
theorem dX5_skipBlanks_17 : decode cX5_skipBlanks 17 = .ok (.if_icmp .ne 16, 3) := by decide +kernel
theorem dX5_skipBlanks_20 : decode cX5_skipBlanks 20 = .ok (.aload_n 0, 1) := by decide +kernel
theorem dX5_skipBlanks_21 : decode cX5_skipBlanks 21 = .ok (.dup, 1) := by decide +kernel
theorem dX5_skipBlanks_22 : decode cX5_skipBlanks 22 = .ok (.getfield 32, 3) := by decide +kernel
theorem dX5_skipBlanks_25 : decode cX5_skipBlanks 25 = .ok (.iconst 1, 1) := by decide +kernel
theorem dX5_skipBlanks_26 : decode cX5_skipBlanks 26 = .ok (.iadd, 1) := by decide +kernel
theorem dX5_skipBlanks_27 : decode cX5_skipBlanks 27 = .ok (.putfield 32, 3) := by decide +kernel
theorem dX5_skipBlanks_30 : decode cX5_skipBlanks 30 = .ok (.goto (-30), 3) := by decide +kernel
theorem dX5_skipBlanks_33 : decode cX5_skipBlanks 33 = .ok (.return_, 1) := by decide +kernel
theorem dX5_letterHere_0 : decode cX5_letterHere 0 = .ok (.aload_n 0, 1) := by decide +kernel
theorem dX5_letterHere_1 : decode cX5_letterHere 1 = .ok (.getfield 32, 3) := by decide +kernel
theorem dX5_letterHere_4 : decode cX5_letterHere 4 = .ok (.ifCond .lt 24, 3) := by decide +kernel
theorem dX5_letterHere_7 : decode cX5_letterHere 7 = .ok (.aload_n 0, 1) := by decide +kernel
theorem dX5_letterHere_8 : decode cX5_letterHere 8 = .ok (.getfield 32, 3) := by decide +kernel
theorem dX5_letterHere_11 : decode cX5_letterHere 11 = .ok (.aload_n 0, 1) := by decide +kernel
theorem dX5_letterHere_12 : decode cX5_letterHere 12 = .ok (.getfield 26, 3) := by decide +kernel
theorem dX5_letterHere_15 : decode cX5_letterHere 15 = .ok (.if_icmp .ge 13, 3) := by decide +kernel
theorem dX5_letterHere_18 : decode cX5_letterHere 18 = .ok (.aload_n 0, 1) := by decide +kernel
theorem dX5_letterHere_19 : decode cX5_letterHere 19 = .ok (.getfield 32, 3) := by decide +kernel
theorem dX5_letterHere_22 : decode cX5_letterHere 22 = .ok (.sipush 220, 3) := by decide +kernel
theorem dX5_letterHere_25 : decode cX5_letterHere 25 = .ok (.if_icmp .lt 5, 3) := by decide +kernel
theorem dX5_letterHere_28 : decode cX5_letterHere 28 = .ok (.iconst (-1), 1) := by decide +kernel
theorem dX5_letterHere_29 : decode cX5_letterHere 29 = .ok (.ireturn, 1) := by decide +kernel
theorem dX5_letterHere_30 : decode cX5_letterHere 30 = .ok (.aload_n 0, 1) := by decide +kernel
theorem dX5_letterHere_31 : decode cX5_letterHere 31 = .ok (.getfield 22, 3) := by decide +kernel
theorem dX5_letterHere_34 : decode cX5_letterHere 34 = .ok (.aload_n 0, 1) := by decide +kernel
theorem dX5_letterHere_35 : decode cX5_letterHere 35 = .ok (.getfield 32, 3) := by decide +kernel
theorem dX5_letterHere_38 : decode cX5_letterHere 38 = .ok (.iaload, 1) := by decide +kernel
theorem dX5_letterHere_39 : decode cX5_letterHere 39 = .ok (.ireturn, 1) := by decide +kernel
theorem dX5_blame_0 : decode cX5_blame 0 = .ok (.aload_n 0, 1) := by decide +kernel
theorem dX5_blame_1 : decode cX5_blame 1 = .ok (.iload_n 1, 1) := by decide +kernel
theorem dX5_blame_2 : decode cX5_blame 2 = .ok (.putfield 35, 3) := by decide +kernel
theorem dX5_blame_5 : decode cX5_blame 5 = .ok (.aload_n 0, 1) := by decide +kernel
theorem dX5_blame_6 : decode cX5_blame 6 = .ok (.iload_n 2, 1) := by decide +kernel
theorem dX5_blame_7 : decode cX5_blame 7 = .ok (.putfield 18, 3) := by decide +kernel
theorem dX5_blame_10 : decode cX5_blame 10 = .ok (.return_, 1) := by decide +kernel
theorem dX5_isFigure_0 : decode cX5_isFigure 0 = .ok (.iload_n 0, 1) := by decide +kernel
theorem dX5_isFigure_1 : decode cX5_isFigure 1 = .ok (.bipush 48, 2) := by decide +kernel
theorem dX5_isFigure_3 : decode cX5_isFigure 3 = .ok (.if_icmp .lt 13, 3) := by decide +kernel
theorem dX5_isFigure_6 : decode cX5_isFigure 6 = .ok (.iload_n 0, 1) := by decide +kernel
theorem dX5_isFigure_7 : decode cX5_isFigure 7 = .ok (.bipush 57, 2) := by decide +kernel
theorem dX5_isFigure_9 : decode cX5_isFigure 9 = .ok (.if_icmp .gt 7, 3) := by decide +kernel
theorem dX5_isFigure_12 : decode cX5_isFigure 12 = .ok (.iconst 1, 1) := by decide +kernel
theorem dX5_isFigure_13 : decode cX5_isFigure 13 = .ok (.goto 4, 3) := by decide +kernel
theorem dX5_isFigure_16 : decode cX5_isFigure 16 = .ok (.iconst 0, 1) := by decide +kernel
theorem dX5_isFigure_17 : decode cX5_isFigure 17 = .ok (.ireturn, 1) := by decide +kernel
theorem dX6_init_0 : decode cX6_init 0 = .ok (.aload_n 0, 1) := by decide +kernel
theorem dX6_init_1 : decode cX6_init 1 = .ok (.invokespecial 3, 3) := by decide +kernel
theorem dX6_init_4 : decode cX6_init 4 = .ok (.aload_n 0, 1) := by decide +kernel
theorem dX6_init_5 : decode cX6_init 5 = .ok (.bipush 8, 2) := by decide +kernel
theorem dX6_init_7 : decode cX6_init 7 = .ok (.newarray .int, 2) := by decide +kernel
theorem dX6_init_9 : decode cX6_init 9 = .ok (.putfield 9, 3) := by decide +kernel
theorem dX6_init_12 : decode cX6_init 12 = .ok (.aload_n 0, 1) := by decide +kernel
theorem dX6_init_13 : decode cX6_init 13 = .ok (.bipush 8, 2) := by decide +kernel
theorem dX6_init_15 : decode cX6_init 15 = .ok (.newarray .boolean, 2) := by decide +kernel
theorem dX6_init_17 : decode cX6_init 17 = .ok (.putfield 15, 3) := by decide +kernel
theorem dX6_init_20 : decode cX6_init 20 = .ok (.return_, 1) := by decide +kernel
theorem dX6_clear_0 : decode cX6_clear 0 = .ok (.aload_n 0, 1) := by decide +kernel
theorem dX6_clear_1 : decode cX6_clear 1 = .ok (.iconst 0, 1) := by decide +kernel
theorem dX6_clear_2 : decode cX6_clear 2 = .ok (.putfield 19, 3) := by decide +kernel
theorem dX6_clear_5 : decode cX6_clear 5 = .ok (.return_, 1) := by decide +kernel
theorem dX6_append_0 : decode cX6_append 0 = .ok (.aload_n 0, 1) := by decide +kernel
theorem dX6_append_1 : decode cX6_append 1 = .ok (.getfield 19, 3) := by decide +kernel
theorem dX6_append_4 : decode cX6_append 4 = .ok (.ifCond .lt 12, 3) := by decide +kernel
theorem dX6_append_7 : decode cX6_append 7 = .ok (.aload_n 0, 1) := by decide +kernel
theorem dX6_append_8 : decode cX6_append 8 = .ok (.getfield 19, 3) := by decide +kernel
theorem dX6_append_11 : decode cX6_append 11 = .ok (.bipush 8, 2) := by decide +kernel
theorem dX6_append_13 : decode cX6_append 13 = .ok (.if_icmp .lt 5, 3) := by decide +kernel
theorem dX6_append_16 : decode cX6_append 16 = .ok (.iconst 0, 1) := by decide +kernel
theorem dX6_append_17 : decode cX6_append 17 = .ok (.ireturn, 1) := by decide +kernel
theorem dX6_append_18 : decode cX6_append 18 = .ok (.aload_n 0, 1) := by decide +kernel
theorem dX6_append_19 : decode cX6_append 19 = .ok (.getfield 9, 3) := by decide +kernel
theorem dX6_append_22 : decode cX6_append 22 = .ok (.aload_n 0, 1) := by decide +kernel
theorem dX6_append_23 : decode cX6_append 23 = .ok (.getfield 19, 3) := by decide +kernel
theorem dX6_append_26 : decode cX6_append 26 = .ok (.iload_n 1, 1) := by decide +kernel
theorem dX6_append_27 : decode cX6_append 27 = .ok (.iastore, 1) := by decide +kernel
theorem dX6_append_28 : decode cX6_append 28 = .ok (.aload_n 0, 1) := by decide +kernel
theorem dX6_append_29 : decode cX6_append 29 = .ok (.getfield 15, 3) := by decide +kernel
theorem dX6_append_32 : decode cX6_append 32 = .ok (.aload_n 0, 1) := by decide +kernel
theorem dX6_append_33 : decode cX6_append 33 = .ok (.getfield 19, 3) := by decide +kernel
theorem dX6_append_36 : decode cX6_append 36 = .ok (.iload_n 2, 1) := by decide +kernel
theorem dX6_append_37 : decode cX6_append 37 = .ok (.bastore, 1) := by decide +kernel
theorem dX6_append_38 : decode cX6_append 38 = .ok (.aload_n 0, 1) := by decide +kernel
theorem dX6_append_39 : decode cX6_append 39 = .ok (.dup, 1) := by decide +kernel
theorem dX6_append_40 : decode cX6_append 40 = .ok (.getfield 19, 3) := by decide +kernel
theorem dX6_append_43 : decode cX6_append 43 = .ok (.iconst 1, 1) := by decide +kernel
theorem dX6_append_44 : decode cX6_append 44 = .ok (.iadd, 1) := by decide +kernel
theorem dX6_append_45 : decode cX6_append 45 = .ok (.putfield 19, 3) := by decide +kernel
theorem dX6_append_48 : decode cX6_append 48 = .ok (.iconst 1, 1) := by decide +kernel
theorem dX6_append_49 : decode cX6_append 49 = .ok (.ireturn, 1) := by decide +kernel
theorem dX6_fits_0 : decode cX6_fits 0 = .ok (.iload_n 3, 1) := by decide +kernel
theorem dX6_fits_1 : decode cX6_fits 1 = .ok (.iload_n 2, 1) := by decide +kernel
theorem dX6_fits_2 : decode cX6_fits 2 = .ok (.iconst (-1), 1) := by decide +kernel
theorem dX6_fits_3 : decode cX6_fits 3 = .ok (.ixor, 1) := by decide +kernel
theorem dX6_fits_4 : decode cX6_fits 4 = .ok (.iand, 1) := by decide +kernel
theorem dX6_fits_5 : decode cX6_fits 5 = .ok (.ifCond .eq 5, 3) := by decide +kernel
theorem dX6_fits_8 : decode cX6_fits 8 = .ok (.iconst 0, 1) := by decide +kernel
theorem dX6_fits_9 : decode cX6_fits 9 = .ok (.ireturn, 1) := by decide +kernel
theorem dX6_fits_10 : decode cX6_fits 10 = .ok (.iconst 0, 1) := by decide +kernel
theorem dX6_fits_11 : decode cX6_fits 11 = .ok (.istore 4, 2) := by decide +kernel
theorem dX6_fits_13 : decode cX6_fits 13 = .ok (.iload 4, 2) := by decide +kernel
theorem dX6_fits_15 : decode cX6_fits 15 = .ok (.aload_n 0, 1) := by decide +kernel
theorem dX6_fits_16 : decode cX6_fits 16 = .ok (.getfield 19, 3) := by decide +kernel
theorem dX6_fits_19 : decode cX6_fits 19 = .ok (.if_icmp .ge 41, 3) := by decide +kernel
theorem dX6_fits_22 : decode cX6_fits 22 = .ok (.iload 4, 2) := by decide +kernel
theorem dX6_fits_24 : decode cX6_fits 24 = .ok (.bipush 8, 2) := by decide +kernel
theorem dX6_fits_26 : decode cX6_fits 26 = .ok (.if_icmp .ge 34, 3) := by decide +kernel
theorem dX6_fits_29 : decode cX6_fits 29 = .ok (.aload_n 1, 1) := by decide +kernel
theorem dX6_fits_30 : decode cX6_fits 30 = .ok (.aload_n 0, 1) := by decide +kernel
theorem dX6_fits_31 : decode cX6_fits 31 = .ok (.getfield 9, 3) := by decide +kernel
theorem dX6_fits_34 : decode cX6_fits 34 = .ok (.iload 4, 2) := by decide +kernel
theorem dX6_fits_36 : decode cX6_fits 36 = .ok (.iaload, 1) := by decide +kernel
theorem dX6_fits_37 : decode cX6_fits 37 = .ok (.iload_n 2, 1) := by decide +kernel
theorem dX6_fits_38 : decode cX6_fits 38 = .ok (.iload_n 3, 1) := by decide +kernel
theorem dX6_fits_39 : decode cX6_fits 39 = .ok (.invokevirtual 23, 3) := by decide +kernel
theorem dX6_fits_42 : decode cX6_fits 42 = .ok (.aload_n 0, 1) := by decide +kernel
theorem dX6_fits_43 : decode cX6_fits 43 = .ok (.getfield 15, 3) := by decide +kernel
theorem dX6_fits_46 : decode cX6_fits 46 = .ok (.iload 4, 2) := by decide +kernel
theorem dX6_fits_48 : decode cX6_fits 48 = .ok (.baload, 1) := by decide +kernel
theorem dX6_fits_49 : decode cX6_fits 49 = .ok (.if_icmp .eq 5, 3) := by decide +kernel
theorem dX6_fits_52 : decode cX6_fits 52 = .ok (.iconst 0, 1) := by decide +kernel
theorem dX6_fits_53 : decode cX6_fits 53 = .ok (.ireturn, 1) := by decide +kernel
theorem dX6_fits_54 : decode cX6_fits 54 = .ok (.iinc 4 1, 3) := by decide +kernel
theorem dX6_fits_57 : decode cX6_fits 57 = .ok (.goto (-44), 3) := by decide +kernel
theorem dX6_fits_60 : decode cX6_fits 60 = .ok (.iconst 1, 1) := by decide +kernel
theorem dX6_fits_61 : decode cX6_fits 61 = .ok (.ireturn, 1) := by decide +kernel
theorem dX6_countFitting_0 : decode cX6_countFitting 0 = .ok (.iconst 0, 1) := by decide +kernel
theorem dX6_countFitting_1 : decode cX6_countFitting 1 = .ok (.istore_n 3, 1) := by decide +kernel
theorem dX6_countFitting_2 : decode cX6_countFitting 2 = .ok (.iconst 0, 1) := by decide +kernel
theorem dX6_countFitting_3 : decode cX6_countFitting 3 = .ok (.istore 4, 2) := by decide +kernel
theorem dX6_countFitting_5 : decode cX6_countFitting 5 = .ok (.iload 4, 2) := by decide +kernel
theorem dX6_countFitting_7 : decode cX6_countFitting 7 = .ok (.iload_n 2, 1) := by decide +kernel
theorem dX6_countFitting_8 : decode cX6_countFitting 8 = .ok (.if_icmp .gt 30, 3) := by decide +kernel
theorem dX6_countFitting_11 : decode cX6_countFitting 11 = .ok (.iload 4, 2) := by decide +kernel
theorem dX6_countFitting_13 : decode cX6_countFitting 13 = .ok (.bipush 64, 2) := by decide +kernel
theorem dX6_countFitting_15 : decode cX6_countFitting 15 = .ok (.if_icmp .ge 23, 3) := by decide +kernel
theorem dX6_countFitting_18 : decode cX6_countFitting 18 = .ok (.aload_n 0, 1) := by decide +kernel
theorem dX6_countFitting_19 : decode cX6_countFitting 19 = .ok (.aload_n 1, 1) := by decide +kernel
theorem dX6_countFitting_20 : decode cX6_countFitting 20 = .ok (.iload_n 2, 1) := by decide +kernel
theorem dX6_countFitting_21 : decode cX6_countFitting 21 = .ok (.iload 4, 2) := by decide +kernel
theorem dX6_countFitting_23 : decode cX6_countFitting 23 = .ok (.invokevirtual 29, 3) := by decide +kernel
theorem dX6_countFitting_26 : decode cX6_countFitting 26 = .ok (.ifCond .eq 6, 3) := by decide +kernel
theorem dX6_countFitting_29 : decode cX6_countFitting 29 = .ok (.iinc 3 1, 3) := by decide +kernel
theorem dX6_countFitting_32 : decode cX6_countFitting 32 = .ok (.iinc 4 1, 3) := by decide +kernel
theorem dX6_countFitting_35 : decode cX6_countFitting 35 = .ok (.goto (-30), 3) := by decide +kernel
theorem dX6_countFitting_38 : decode cX6_countFitting 38 = .ok (.iload_n 3, 1) := by decide +kernel
theorem dX6_countFitting_39 : decode cX6_countFitting 39 = .ok (.ireturn, 1) := by decide +kernel
theorem dX6_inAllFitting_0 : decode cX6_inAllFitting 0 = .ok (.aload_n 0, 1) := by decide +kernel
theorem dX6_inAllFitting_1 : decode cX6_inAllFitting 1 = .ok (.aload_n 1, 1) := by decide +kernel
theorem dX6_inAllFitting_2 : decode cX6_inAllFitting 2 = .ok (.iload_n 2, 1) := by decide +kernel
theorem dX6_inAllFitting_3 : decode cX6_inAllFitting 3 = .ok (.invokevirtual 33, 3) := by decide +kernel
theorem dX6_inAllFitting_6 : decode cX6_inAllFitting 6 = .ok (.ifCond .ne 5, 3) := by decide +kernel
theorem dX6_inAllFitting_9 : decode cX6_inAllFitting 9 = .ok (.iconst 0, 1) := by decide +kernel
theorem dX6_inAllFitting_10 : decode cX6_inAllFitting 10 = .ok (.ireturn, 1) := by decide +kernel
theorem dX6_inAllFitting_11 : decode cX6_inAllFitting 11 = .ok (.iload_n 2, 1) := by decide +kernel
theorem dX6_inAllFitting_12 : decode cX6_inAllFitting 12 = .ok (.istore_n 3, 1) := by decide +kernel
theorem dX6_inAllFitting_13 : decode cX6_inAllFitting 13 = .ok (.iconst 0, 1) := by decide +kernel
theorem dX6_inAllFitting_14 : decode cX6_inAllFitting 14 = .ok (.istore 4, 2) := by decide +kernel
theorem dX6_inAllFitting_16 : decode cX6_inAllFitting 16 = .ok (.iload 4, 2) := by decide +kernel
theorem dX6_inAllFitting_18 : decode cX6_inAllFitting 18 = .ok (.iload_n 2, 1) := by decide +kernel
theorem dX6_inAllFitting_19 : decode cX6_inAllFitting 19 = .ok (.if_icmp .gt 32, 3) := by decide +kernel
theorem dX6_inAllFitting_22 : decode cX6_inAllFitting 22 = .ok (.iload 4, 2) := by decide +kernel
theorem dX6_inAllFitting_24 : decode cX6_inAllFitting 24 = .ok (.bipush 64, 2) := by decide +kernel
theorem dX6_inAllFitting_26 : decode cX6_inAllFitting 26 = .ok (.if_icmp .ge 25, 3) := by decide +kernel
theorem dX6_inAllFitting_29 : decode cX6_inAllFitting 29 = .ok (.aload_n 0, 1) := by decide +kernel
theorem dX6_inAllFitting_30 : decode cX6_inAllFitting 30 = .ok (.aload_n 1, 1) := by decide +kernel
theorem dX6_inAllFitting_31 : decode cX6_inAllFitting 31 = .ok (.iload_n 2, 1) := by decide +kernel
theorem dX6_inAllFitting_32 : decode cX6_inAllFitting 32 = .ok (.iload 4, 2) := by decide +kernel
theorem dX6_inAllFitting_34 : decode cX6_inAllFitting 34 = .ok (.invokevirtual 29, 3) := by decide +kernel
theorem dX6_inAllFitting_37 : decode cX6_inAllFitting 37 = .ok (.ifCond .eq 8, 3) := by decide +kernel
theorem dX6_inAllFitting_40 : decode cX6_inAllFitting 40 = .ok (.iload_n 3, 1) := by decide +kernel
theorem dX6_inAllFitting_41 : decode cX6_inAllFitting 41 = .ok (.iload 4, 2) := by decide +kernel
theorem dX6_inAllFitting_43 : decode cX6_inAllFitting 43 = .ok (.iand, 1) := by decide +kernel
theorem dX6_inAllFitting_44 : decode cX6_inAllFitting 44 = .ok (.istore_n 3, 1) := by decide +kernel
theorem dX6_inAllFitting_45 : decode cX6_inAllFitting 45 = .ok (.iinc 4 1, 3) := by decide +kernel
theorem dX6_inAllFitting_48 : decode cX6_inAllFitting 48 = .ok (.goto (-32), 3) := by decide +kernel
theorem dX6_inAllFitting_51 : decode cX6_inAllFitting 51 = .ok (.iload_n 3, 1) := by decide +kernel
theorem dX6_inAllFitting_52 : decode cX6_inAllFitting 52 = .ok (.ireturn, 1) := by decide +kernel
theorem dX6_fittingAt_0 : decode cX6_fittingAt 0 = .ok (.iload_n 3, 1) := by decide +kernel
theorem dX6_fittingAt_1 : decode cX6_fittingAt 1 = .ok (.istore 4, 2) := by decide +kernel
theorem dX6_fittingAt_3 : decode cX6_fittingAt 3 = .ok (.iconst 0, 1) := by decide +kernel
theorem dX6_fittingAt_4 : decode cX6_fittingAt 4 = .ok (.istore 5, 2) := by decide +kernel
theorem dX6_fittingAt_6 : decode cX6_fittingAt 6 = .ok (.iload 5, 2) := by decide +kernel
theorem dX6_fittingAt_8 : decode cX6_fittingAt 8 = .ok (.bipush 6, 2) := by decide +kernel
theorem dX6_fittingAt_10 : decode cX6_fittingAt 10 = .ok (.if_icmp .gt 71, 3) := by decide +kernel
theorem dX6_fittingAt_13 : decode cX6_fittingAt 13 = .ok (.iload 4, 2) := by decide +kernel
theorem dX6_fittingAt_15 : decode cX6_fittingAt 15 = .ok (.ifCond .lt 66, 3) := by decide +kernel
theorem dX6_fittingAt_18 : decode cX6_fittingAt 18 = .ok (.iconst 0, 1) := by decide +kernel
theorem dX6_fittingAt_19 : decode cX6_fittingAt 19 = .ok (.istore 6, 2) := by decide +kernel
theorem dX6_fittingAt_21 : decode cX6_fittingAt 21 = .ok (.iload 6, 2) := by decide +kernel
theorem dX6_fittingAt_23 : decode cX6_fittingAt 23 = .ok (.iload_n 2, 1) := by decide +kernel
theorem dX6_fittingAt_24 : decode cX6_fittingAt 24 = .ok (.if_icmp .gt 51, 3) := by decide +kernel
theorem dX6_fittingAt_27 : decode cX6_fittingAt 27 = .ok (.iload 6, 2) := by decide +kernel
theorem dX6_fittingAt_29 : decode cX6_fittingAt 29 = .ok (.bipush 64, 2) := by decide +kernel
theorem dX6_fittingAt_31 : decode cX6_fittingAt 31 = .ok (.if_icmp .ge 44, 3) := by decide +kernel
theorem dX6_fittingAt_34 : decode cX6_fittingAt 34 = .ok (.iload 6, 2) := by decide +kernel
theorem dX6_fittingAt_36 : decode cX6_fittingAt 36 = .ok (.invokestatic 37, 3) := by decide +kernel
theorem dX6_fittingAt_39 : decode cX6_fittingAt 39 = .ok (.iload 5, 2) := by decide +kernel
theorem dX6_fittingAt_41 : decode cX6_fittingAt 41 = .ok (.if_icmp .ne 28, 3) := by decide +kernel
theorem dX6_fittingAt_44 : decode cX6_fittingAt 44 = .ok (.aload_n 0, 1) := by decide +kernel
theorem dX6_fittingAt_45 : decode cX6_fittingAt 45 = .ok (.aload_n 1, 1) := by decide +kernel
theorem dX6_fittingAt_46 : decode cX6_fittingAt 46 = .ok (.iload_n 2, 1) := by decide +kernel
theorem dX6_fittingAt_47 : decode cX6_fittingAt 47 = .ok (.iload 6, 2) := by decide +kernel
theorem dX6_fittingAt_49 : decode cX6_fittingAt 49 = .ok (.invokevirtual 29, 3) := by decide +kernel
theorem dX6_fittingAt_52 : decode cX6_fittingAt 52 = .ok (.ifCond .ne 6, 3) := by decide +kernel
theorem dX6_fittingAt_55 : decode cX6_fittingAt 55 = .ok (.goto 14, 3) := by decide +kernel
theorem dX6_fittingAt_58 : decode cX6_fittingAt 58 = .ok (.iload 4, 2) := by decide +kernel
theorem dX6_fittingAt_60 : decode cX6_fittingAt 60 = .ok (.ifCond .ne 6, 3) := by decide +kernel
theorem dX6_fittingAt_63 : decode cX6_fittingAt 63 = .ok (.iload 6, 2) := by decide +kernel
theorem dX6_fittingAt_65 : decode cX6_fittingAt 65 = .ok (.ireturn, 1) := by decide +kernel
theorem dX6_fittingAt_66 : decode cX6_fittingAt 66 = .ok (.iinc 4 (-1), 3) := by decide +kernel
theorem dX6_fittingAt_69 : decode cX6_fittingAt 69 = .ok (.iinc 6 1, 3) := by decide +kernel
theorem dX6_fittingAt_72 : decode cX6_fittingAt 72 = .ok (.goto (-51), 3) := by decide +kernel
theorem dX6_fittingAt_75 : decode cX6_fittingAt 75 = .ok (.iinc 5 1, 3) := by decide +kernel
theorem dX6_fittingAt_78 : decode cX6_fittingAt 78 = .ok (.goto (-72), 3) := by decide +kernel
theorem dX6_fittingAt_81 : decode cX6_fittingAt 81 = .ok (.iconst (-1), 1) := by decide +kernel
theorem dX6_fittingAt_82 : decode cX6_fittingAt 82 = .ok (.ireturn, 1) := by decide +kernel
theorem dX6_bestToAsk_0 : decode cX6_bestToAsk 0 = .ok (.iconst (-1), 1) := by decide +kernel
theorem dX6_bestToAsk_1 : decode cX6_bestToAsk 1 = .ok (.istore_n 3, 1) := by decide +kernel
theorem dX6_bestToAsk_2 : decode cX6_bestToAsk 2 = .ok (.aload_n 0, 1) := by decide +kernel
theorem dX6_bestToAsk_3 : decode cX6_bestToAsk 3 = .ok (.aload_n 1, 1) := by decide +kernel
theorem dX6_bestToAsk_4 : decode cX6_bestToAsk 4 = .ok (.iload_n 2, 1) := by decide +kernel
theorem dX6_bestToAsk_5 : decode cX6_bestToAsk 5 = .ok (.invokevirtual 33, 3) := by decide +kernel
theorem dX6_bestToAsk_8 : decode cX6_bestToAsk 8 = .ok (.istore 4, 2) := by decide +kernel
theorem dX6_bestToAsk_10 : decode cX6_bestToAsk 10 = .ok (.iconst 0, 1) := by decide +kernel
theorem dX6_bestToAsk_11 : decode cX6_bestToAsk 11 = .ok (.istore 5, 2) := by decide +kernel
theorem dX6_bestToAsk_13 : decode cX6_bestToAsk 13 = .ok (.iload 5, 2) := by decide +kernel
theorem dX6_bestToAsk_15 : decode cX6_bestToAsk 15 = .ok (.aload_n 1, 1) := by decide +kernel
theorem dX6_bestToAsk_16 : decode cX6_bestToAsk 16 = .ok (.getfield 43, 3) := by decide +kernel
theorem dX6_bestToAsk_19 : decode cX6_bestToAsk 19 = .ok (.if_icmp .ge 40, 3) := by decide +kernel
theorem dX6_bestToAsk_22 : decode cX6_bestToAsk 22 = .ok (.iload 5, 2) := by decide +kernel
theorem dX6_bestToAsk_24 : decode cX6_bestToAsk 24 = .ok (.bipush 8, 2) := by decide +kernel
theorem dX6_bestToAsk_26 : decode cX6_bestToAsk 26 = .ok (.if_icmp .ge 33, 3) := by decide +kernel
theorem dX6_bestToAsk_29 : decode cX6_bestToAsk 29 = .ok (.aload_n 0, 1) := by decide +kernel
theorem dX6_bestToAsk_30 : decode cX6_bestToAsk 30 = .ok (.aload_n 1, 1) := by decide +kernel
theorem dX6_bestToAsk_31 : decode cX6_bestToAsk 31 = .ok (.iload 5, 2) := by decide +kernel
theorem dX6_bestToAsk_33 : decode cX6_bestToAsk 33 = .ok (.iload_n 2, 1) := by decide +kernel
theorem dX6_bestToAsk_34 : decode cX6_bestToAsk 34 = .ok (.invokevirtual 45, 3) := by decide +kernel
theorem dX6_bestToAsk_37 : decode cX6_bestToAsk 37 = .ok (.istore 6, 2) := by decide +kernel
theorem dX6_bestToAsk_39 : decode cX6_bestToAsk 39 = .ok (.iload 6, 2) := by decide +kernel
theorem dX6_bestToAsk_41 : decode cX6_bestToAsk 41 = .ok (.iload 4, 2) := by decide +kernel
theorem dX6_bestToAsk_43 : decode cX6_bestToAsk 43 = .ok (.if_icmp .ge 10, 3) := by decide +kernel
theorem dX6_bestToAsk_46 : decode cX6_bestToAsk 46 = .ok (.iload 6, 2) := by decide +kernel
theorem dX6_bestToAsk_48 : decode cX6_bestToAsk 48 = .ok (.istore 4, 2) := by decide +kernel
theorem dX6_bestToAsk_50 : decode cX6_bestToAsk 50 = .ok (.iload 5, 2) := by decide +kernel
theorem dX6_bestToAsk_52 : decode cX6_bestToAsk 52 = .ok (.istore_n 3, 1) := by decide +kernel
theorem dX6_bestToAsk_53 : decode cX6_bestToAsk 53 = .ok (.iinc 5 1, 3) := by decide +kernel
theorem dX6_bestToAsk_56 : decode cX6_bestToAsk 56 = .ok (.goto (-43), 3) := by decide +kernel
theorem dX6_bestToAsk_59 : decode cX6_bestToAsk 59 = .ok (.iload_n 3, 1) := by decide +kernel
theorem dX6_bestToAsk_60 : decode cX6_bestToAsk 60 = .ok (.ireturn, 1) := by decide +kernel
theorem dX6_greaterPart_0 : decode cX6_greaterPart 0 = .ok (.iconst 0, 1) := by decide +kernel
theorem dX6_greaterPart_1 : decode cX6_greaterPart 1 = .ok (.istore 4, 2) := by decide +kernel
theorem dX6_greaterPart_3 : decode cX6_greaterPart 3 = .ok (.iconst 0, 1) := by decide +kernel
theorem dX6_greaterPart_4 : decode cX6_greaterPart 4 = .ok (.istore 5, 2) := by decide +kernel
theorem dX6_greaterPart_6 : decode cX6_greaterPart 6 = .ok (.iconst 0, 1) := by decide +kernel
theorem dX6_greaterPart_7 : decode cX6_greaterPart 7 = .ok (.istore 6, 2) := by decide +kernel
theorem dX6_greaterPart_9 : decode cX6_greaterPart 9 = .ok (.iload 6, 2) := by decide +kernel
theorem dX6_greaterPart_11 : decode cX6_greaterPart 11 = .ok (.iload_n 3, 1) := by decide +kernel
theorem dX6_greaterPart_12 : decode cX6_greaterPart 12 = .ok (.if_icmp .gt 50, 3) := by decide +kernel
theorem dX6_greaterPart_15 : decode cX6_greaterPart 15 = .ok (.iload 6, 2) := by decide +kernel
theorem dX6_greaterPart_17 : decode cX6_greaterPart 17 = .ok (.bipush 64, 2) := by decide +kernel
theorem dX6_greaterPart_19 : decode cX6_greaterPart 19 = .ok (.if_icmp .ge 43, 3) := by decide +kernel
theorem dX6_greaterPart_22 : decode cX6_greaterPart 22 = .ok (.aload_n 0, 1) := by decide +kernel
theorem dX6_greaterPart_23 : decode cX6_greaterPart 23 = .ok (.aload_n 1, 1) := by decide +kernel
theorem dX6_greaterPart_24 : decode cX6_greaterPart 24 = .ok (.iload_n 3, 1) := by decide +kernel
theorem dX6_greaterPart_25 : decode cX6_greaterPart 25 = .ok (.iload 6, 2) := by decide +kernel
theorem dX6_greaterPart_27 : decode cX6_greaterPart 27 = .ok (.invokevirtual 29, 3) := by decide +kernel
theorem dX6_greaterPart_30 : decode cX6_greaterPart 30 = .ok (.ifCond .ne 6, 3) := by decide +kernel
theorem dX6_greaterPart_33 : decode cX6_greaterPart 33 = .ok (.goto 23, 3) := by decide +kernel
theorem dX6_greaterPart_36 : decode cX6_greaterPart 36 = .ok (.aload_n 1, 1) := by decide +kernel
theorem dX6_greaterPart_37 : decode cX6_greaterPart 37 = .ok (.iload_n 2, 1) := by decide +kernel
theorem dX6_greaterPart_38 : decode cX6_greaterPart 38 = .ok (.iload_n 3, 1) := by decide +kernel
theorem dX6_greaterPart_39 : decode cX6_greaterPart 39 = .ok (.iload 6, 2) := by decide +kernel
theorem dX6_greaterPart_41 : decode cX6_greaterPart 41 = .ok (.invokevirtual 23, 3) := by decide +kernel
theorem dX6_greaterPart_44 : decode cX6_greaterPart 44 = .ok (.ifCond .eq 9, 3) := by decide +kernel
theorem dX6_greaterPart_47 : decode cX6_greaterPart 47 = .ok (.iinc 4 1, 3) := by decide +kernel
theorem dX6_greaterPart_50 : decode cX6_greaterPart 50 = .ok (.goto 6, 3) := by decide +kernel
theorem dX6_greaterPart_53 : decode cX6_greaterPart 53 = .ok (.iinc 5 1, 3) := by decide +kernel
theorem dX6_greaterPart_56 : decode cX6_greaterPart 56 = .ok (.iinc 6 1, 3) := by decide +kernel
theorem dX6_greaterPart_59 : decode cX6_greaterPart 59 = .ok (.goto (-50), 3) := by decide +kernel
theorem dX6_greaterPart_62 : decode cX6_greaterPart 62 = .ok (.iload 4, 2) := by decide +kernel
theorem dX6_greaterPart_64 : decode cX6_greaterPart 64 = .ok (.iload 5, 2) := by decide +kernel
theorem dX6_greaterPart_66 : decode cX6_greaterPart 66 = .ok (.invokestatic 49, 3) := by decide +kernel
theorem dX6_greaterPart_69 : decode cX6_greaterPart 69 = .ok (.ireturn, 1) := by decide +kernel
theorem dX7_init_0 : decode cX7_init 0 = .ok (.aload_n 0, 1) := by decide +kernel
theorem dX7_init_1 : decode cX7_init 1 = .ok (.invokespecial 3, 3) := by decide +kernel
theorem dX7_init_4 : decode cX7_init 4 = .ok (.aload_n 0, 1) := by decide +kernel
theorem dX7_init_5 : decode cX7_init 5 = .ok (.bipush 6, 2) := by decide +kernel
theorem dX7_init_7 : decode cX7_init 7 = .ok (.newarray .int, 2) := by decide +kernel
theorem dX7_init_9 : decode cX7_init 9 = .ok (.putfield 9, 3) := by decide +kernel
theorem dX7_init_12 : decode cX7_init 12 = .ok (.aload_n 0, 1) := by decide +kernel
theorem dX7_init_13 : decode cX7_init 13 = .ok (.bipush 6, 2) := by decide +kernel
theorem dX7_init_15 : decode cX7_init 15 = .ok (.newarray .int, 2) := by decide +kernel
theorem dX7_init_17 : decode cX7_init 17 = .ok (.putfield 15, 3) := by decide +kernel
theorem dX7_init_20 : decode cX7_init 20 = .ok (.return_, 1) := by decide +kernel
theorem dX7_begin_0 : decode cX7_begin 0 = .ok (.aload_n 0, 1) := by decide +kernel
theorem dX7_begin_1 : decode cX7_begin 1 = .ok (.iconst 0, 1) := by decide +kernel
theorem dX7_begin_2 : decode cX7_begin 2 = .ok (.putfield 18, 3) := by decide +kernel
theorem dX7_begin_5 : decode cX7_begin 5 = .ok (.aload_n 0, 1) := by decide +kernel
theorem dX7_begin_6 : decode cX7_begin 6 = .ok (.iconst 0, 1) := by decide +kernel
theorem dX7_begin_7 : decode cX7_begin 7 = .ok (.putfield 22, 3) := by decide +kernel
theorem dX7_begin_10 : decode cX7_begin 10 = .ok (.aload_n 0, 1) := by decide +kernel
theorem dX7_begin_11 : decode cX7_begin 11 = .ok (.iconst 0, 1) := by decide +kernel
theorem dX7_begin_12 : decode cX7_begin 12 = .ok (.putfield 25, 3) := by decide +kernel
theorem dX7_begin_15 : decode cX7_begin 15 = .ok (.aload_n 0, 1) := by decide +kernel
theorem dX7_begin_16 : decode cX7_begin 16 = .ok (.iconst 0, 1) := by decide +kernel
theorem dX7_begin_17 : decode cX7_begin 17 = .ok (.putfield 28, 3) := by decide +kernel
theorem dX7_begin_20 : decode cX7_begin 20 = .ok (.aload_n 0, 1) := by decide +kernel
theorem dX7_begin_21 : decode cX7_begin 21 = .ok (.iconst 0, 1) := by decide +kernel
theorem dX7_begin_22 : decode cX7_begin 22 = .ok (.putfield 31, 3) := by decide +kernel
theorem dX7_begin_25 : decode cX7_begin 25 = .ok (.aload_n 0, 1) := by decide +kernel
theorem dX7_begin_26 : decode cX7_begin 26 = .ok (.iconst 0, 1) := by decide +kernel
theorem dX7_begin_27 : decode cX7_begin 27 = .ok (.putfield 34, 3) := by decide +kernel
theorem dX7_begin_30 : decode cX7_begin 30 = .ok (.aload_n 0, 1) := by decide +kernel
theorem dX7_begin_31 : decode cX7_begin 31 = .ok (.iconst 0, 1) := by decide +kernel
theorem dX7_begin_32 : decode cX7_begin 32 = .ok (.putfield 37, 3) := by decide +kernel
theorem dX7_begin_35 : decode cX7_begin 35 = .ok (.iconst 0, 1) := by decide +kernel
theorem dX7_begin_36 : decode cX7_begin 36 = .ok (.istore_n 2, 1) := by decide +kernel
theorem dX7_begin_37 : decode cX7_begin 37 = .ok (.iload_n 2, 1) := by decide +kernel
theorem dX7_begin_38 : decode cX7_begin 38 = .ok (.bipush 6, 2) := by decide +kernel
theorem dX7_begin_40 : decode cX7_begin 40 = .ok (.if_icmp .ge 28, 3) := by decide +kernel
theorem dX7_begin_43 : decode cX7_begin 43 = .ok (.aload_n 0, 1) := by decide +kernel
theorem dX7_begin_44 : decode cX7_begin 44 = .ok (.getfield 9, 3) := by decide +kernel
theorem dX7_begin_47 : decode cX7_begin 47 = .ok (.iload_n 2, 1) := by decide +kernel
theorem dX7_begin_48 : decode cX7_begin 48 = .ok (.aload_n 1, 1) := by decide +kernel
theorem dX7_begin_49 : decode cX7_begin 49 = .ok (.getfield 40, 3) := by decide +kernel
theorem dX7_begin_52 : decode cX7_begin 52 = .ok (.iload_n 2, 1) := by decide +kernel
theorem dX7_begin_53 : decode cX7_begin 53 = .ok (.iaload, 1) := by decide +kernel
theorem dX7_begin_54 : decode cX7_begin 54 = .ok (.iastore, 1) := by decide +kernel
theorem dX7_begin_55 : decode cX7_begin 55 = .ok (.aload_n 0, 1) := by decide +kernel
theorem dX7_begin_56 : decode cX7_begin 56 = .ok (.getfield 15, 3) := by decide +kernel
theorem dX7_begin_59 : decode cX7_begin 59 = .ok (.iload_n 2, 1) := by decide +kernel
theorem dX7_begin_60 : decode cX7_begin 60 = .ok (.iconst 0, 1) := by decide +kernel
theorem dX7_begin_61 : decode cX7_begin 61 = .ok (.iastore, 1) := by decide +kernel
theorem dX7_begin_62 : decode cX7_begin 62 = .ok (.iinc 2 1, 3) := by decide +kernel
theorem dX7_begin_65 : decode cX7_begin 65 = .ok (.goto (-28), 3) := by decide +kernel
theorem dX7_begin_68 : decode cX7_begin 68 = .ok (.return_, 1) := by decide +kernel
theorem dX7_copyFrom_0 : decode cX7_copyFrom 0 = .ok (.aload_n 0, 1) := by decide +kernel
theorem dX7_copyFrom_1 : decode cX7_copyFrom 1 = .ok (.aload_n 1, 1) := by decide +kernel
theorem dX7_copyFrom_2 : decode cX7_copyFrom 2 = .ok (.getfield 18, 3) := by decide +kernel
theorem dX7_copyFrom_5 : decode cX7_copyFrom 5 = .ok (.putfield 18, 3) := by decide +kernel
theorem dX7_copyFrom_8 : decode cX7_copyFrom 8 = .ok (.aload_n 0, 1) := by decide +kernel
theorem dX7_copyFrom_9 : decode cX7_copyFrom 9 = .ok (.aload_n 1, 1) := by decide +kernel
theorem dX7_copyFrom_10 : decode cX7_copyFrom 10 = .ok (.getfield 22, 3) := by decide +kernel
theorem dX7_copyFrom_13 : decode cX7_copyFrom 13 = .ok (.putfield 22, 3) := by decide +kernel
theorem dX7_copyFrom_16 : decode cX7_copyFrom 16 = .ok (.aload_n 0, 1) := by decide +kernel
theorem dX7_copyFrom_17 : decode cX7_copyFrom 17 = .ok (.aload_n 1, 1) := by decide +kernel
theorem dX7_copyFrom_18 : decode cX7_copyFrom 18 = .ok (.getfield 25, 3) := by decide +kernel
theorem dX7_copyFrom_21 : decode cX7_copyFrom 21 = .ok (.putfield 25, 3) := by decide +kernel
theorem dX7_copyFrom_24 : decode cX7_copyFrom 24 = .ok (.aload_n 0, 1) := by decide +kernel
theorem dX7_copyFrom_25 : decode cX7_copyFrom 25 = .ok (.aload_n 1, 1) := by decide +kernel
theorem dX7_copyFrom_26 : decode cX7_copyFrom 26 = .ok (.getfield 28, 3) := by decide +kernel
theorem dX7_copyFrom_29 : decode cX7_copyFrom 29 = .ok (.putfield 28, 3) := by decide +kernel
theorem dX7_copyFrom_32 : decode cX7_copyFrom 32 = .ok (.aload_n 0, 1) := by decide +kernel
theorem dX7_copyFrom_33 : decode cX7_copyFrom 33 = .ok (.aload_n 1, 1) := by decide +kernel
theorem dX7_copyFrom_34 : decode cX7_copyFrom 34 = .ok (.getfield 31, 3) := by decide +kernel
theorem dX7_copyFrom_37 : decode cX7_copyFrom 37 = .ok (.putfield 31, 3) := by decide +kernel
theorem dX7_copyFrom_40 : decode cX7_copyFrom 40 = .ok (.aload_n 0, 1) := by decide +kernel
theorem dX7_copyFrom_41 : decode cX7_copyFrom 41 = .ok (.aload_n 1, 1) := by decide +kernel
theorem dX7_copyFrom_42 : decode cX7_copyFrom 42 = .ok (.getfield 34, 3) := by decide +kernel
theorem dX7_copyFrom_45 : decode cX7_copyFrom 45 = .ok (.putfield 34, 3) := by decide +kernel
theorem dX7_copyFrom_48 : decode cX7_copyFrom 48 = .ok (.aload_n 0, 1) := by decide +kernel
theorem dX7_copyFrom_49 : decode cX7_copyFrom 49 = .ok (.aload_n 1, 1) := by decide +kernel
theorem dX7_copyFrom_50 : decode cX7_copyFrom 50 = .ok (.getfield 37, 3) := by decide +kernel
theorem dX7_copyFrom_53 : decode cX7_copyFrom 53 = .ok (.putfield 37, 3) := by decide +kernel
theorem dX7_copyFrom_56 : decode cX7_copyFrom 56 = .ok (.aload_n 1, 1) := by decide +kernel
theorem dX7_copyFrom_57 : decode cX7_copyFrom 57 = .ok (.getfield 9, 3) := by decide +kernel
theorem dX7_copyFrom_60 : decode cX7_copyFrom 60 = .ok (.iconst 0, 1) := by decide +kernel
theorem dX7_copyFrom_61 : decode cX7_copyFrom 61 = .ok (.aload_n 0, 1) := by decide +kernel
theorem dX7_copyFrom_62 : decode cX7_copyFrom 62 = .ok (.getfield 9, 3) := by decide +kernel
theorem dX7_copyFrom_65 : decode cX7_copyFrom 65 = .ok (.iconst 0, 1) := by decide +kernel
theorem dX7_copyFrom_66 : decode cX7_copyFrom 66 = .ok (.bipush 6, 2) := by decide +kernel
theorem dX7_copyFrom_68 : decode cX7_copyFrom 68 = .ok (.invokestatic 45, 3) := by decide +kernel
theorem dX7_copyFrom_71 : decode cX7_copyFrom 71 = .ok (.aload_n 1, 1) := by decide +kernel
theorem dX7_copyFrom_72 : decode cX7_copyFrom 72 = .ok (.getfield 15, 3) := by decide +kernel
theorem dX7_copyFrom_75 : decode cX7_copyFrom 75 = .ok (.iconst 0, 1) := by decide +kernel
theorem dX7_copyFrom_76 : decode cX7_copyFrom 76 = .ok (.aload_n 0, 1) := by decide +kernel
theorem dX7_copyFrom_77 : decode cX7_copyFrom 77 = .ok (.getfield 15, 3) := by decide +kernel
theorem dX7_copyFrom_80 : decode cX7_copyFrom 80 = .ok (.iconst 0, 1) := by decide +kernel
theorem dX7_copyFrom_81 : decode cX7_copyFrom 81 = .ok (.bipush 6, 2) := by decide +kernel
theorem dX7_copyFrom_83 : decode cX7_copyFrom 83 = .ok (.invokestatic 45, 3) := by decide +kernel
theorem dX7_copyFrom_86 : decode cX7_copyFrom 86 = .ok (.return_, 1) := by decide +kernel
theorem dX7_passWatched_0 : decode cX7_passWatched 0 = .ok (.aload_n 0, 1) := by decide +kernel
theorem dX7_passWatched_1 : decode cX7_passWatched 1 = .ok (.aload_n 1, 1) := by decide +kernel
theorem dX7_passWatched_2 : decode cX7_passWatched 2 = .ok (.aload_n 0, 1) := by decide +kernel
theorem dX7_passWatched_3 : decode cX7_passWatched 3 = .ok (.getfield 9, 3) := by decide +kernel
theorem dX7_passWatched_6 : decode cX7_passWatched 6 = .ok (.iload_n 2, 1) := by decide +kernel
theorem dX7_passWatched_7 : decode cX7_passWatched 7 = .ok (.iload_n 3, 1) := by decide +kernel
theorem dX7_passWatched_8 : decode cX7_passWatched 8 = .ok (.invokevirtual 51, 3) := by decide +kernel
theorem dX7_passWatched_11 : decode cX7_passWatched 11 = .ok (.putfield 28, 3) := by decide +kernel
theorem dX7_passWatched_14 : decode cX7_passWatched 14 = .ok (.aload_n 0, 1) := by decide +kernel
theorem dX7_passWatched_15 : decode cX7_passWatched 15 = .ok (.aload_n 1, 1) := by decide +kernel
theorem dX7_passWatched_16 : decode cX7_passWatched 16 = .ok (.iload_n 2, 1) := by decide +kernel
theorem dX7_passWatched_17 : decode cX7_passWatched 17 = .ok (.aload_n 0, 1) := by decide +kernel
theorem dX7_passWatched_18 : decode cX7_passWatched 18 = .ok (.getfield 28, 3) := by decide +kernel
theorem dX7_passWatched_21 : decode cX7_passWatched 21 = .ok (.invokevirtual 55, 3) := by decide +kernel
theorem dX7_passWatched_24 : decode cX7_passWatched 24 = .ok (.putfield 31, 3) := by decide +kernel
theorem dX7_passWatched_27 : decode cX7_passWatched 27 = .ok (.iload_n 2, 1) := by decide +kernel
theorem dX7_passWatched_28 : decode cX7_passWatched 28 = .ok (.aload_n 0, 1) := by decide +kernel
theorem dX7_passWatched_29 : decode cX7_passWatched 29 = .ok (.getfield 28, 3) := by decide +kernel
theorem dX7_passWatched_32 : decode cX7_passWatched 32 = .ok (.iconst (-1), 1) := by decide +kernel
theorem dX7_passWatched_33 : decode cX7_passWatched 33 = .ok (.ixor, 1) := by decide +kernel
theorem dX7_passWatched_34 : decode cX7_passWatched 34 = .ok (.iand, 1) := by decide +kernel
theorem dX7_passWatched_35 : decode cX7_passWatched 35 = .ok (.istore 4, 2) := by decide +kernel
theorem dX7_passWatched_37 : decode cX7_passWatched 37 = .ok (.iload 4, 2) := by decide +kernel
theorem dX7_passWatched_39 : decode cX7_passWatched 39 = .ok (.ifCond .ne 16, 3) := by decide +kernel
theorem dX7_passWatched_42 : decode cX7_passWatched 42 = .ok (.aload_n 0, 1) := by decide +kernel
theorem dX7_passWatched_43 : decode cX7_passWatched 43 = .ok (.dup, 1) := by decide +kernel
theorem dX7_passWatched_44 : decode cX7_passWatched 44 = .ok (.getfield 34, 3) := by decide +kernel
theorem dX7_passWatched_47 : decode cX7_passWatched 47 = .ok (.iconst 1, 1) := by decide +kernel
theorem dX7_passWatched_48 : decode cX7_passWatched 48 = .ok (.iadd, 1) := by decide +kernel
theorem dX7_passWatched_49 : decode cX7_passWatched 49 = .ok (.putfield 34, 3) := by decide +kernel
theorem dX7_passWatched_52 : decode cX7_passWatched 52 = .ok (.goto 21, 3) := by decide +kernel
theorem dX7_passWatched_55 : decode cX7_passWatched 55 = .ok (.aload_n 0, 1) := by decide +kernel
theorem dX7_passWatched_56 : decode cX7_passWatched 56 = .ok (.ldc 59, 2) := by decide +kernel
theorem dX7_passWatched_58 : decode cX7_passWatched 58 = .ok (.aload_n 0, 1) := by decide +kernel
theorem dX7_passWatched_59 : decode cX7_passWatched 59 = .ok (.getfield 22, 3) := by decide +kernel
theorem dX7_passWatched_62 : decode cX7_passWatched 62 = .ok (.aload_n 1, 1) := by decide +kernel
theorem dX7_passWatched_63 : decode cX7_passWatched 63 = .ok (.getfield 60, 3) := by decide +kernel
theorem dX7_passWatched_66 : decode cX7_passWatched 66 = .ok (.iadd, 1) := by decide +kernel
theorem dX7_passWatched_67 : decode cX7_passWatched 67 = .ok (.invokestatic 61, 3) := by decide +kernel
theorem dX7_passWatched_70 : decode cX7_passWatched 70 = .ok (.putfield 22, 3) := by decide +kernel
theorem dX7_passWatched_73 : decode cX7_passWatched 73 = .ok (.aload_n 0, 1) := by decide +kernel
theorem dX7_passWatched_74 : decode cX7_passWatched 74 = .ok (.ldc 59, 2) := by decide +kernel
theorem dX7_passWatched_76 : decode cX7_passWatched 76 = .ok (.aload_n 0, 1) := by decide +kernel
theorem dX7_passWatched_77 : decode cX7_passWatched 77 = .ok (.getfield 25, 3) := by decide +kernel
theorem dX7_passWatched_80 : decode cX7_passWatched 80 = .ok (.aload_n 1, 1) := by decide +kernel
theorem dX7_passWatched_81 : decode cX7_passWatched 81 = .ok (.getfield 66, 3) := by decide +kernel
theorem dX7_passWatched_84 : decode cX7_passWatched 84 = .ok (.aload_n 0, 1) := by decide +kernel
theorem dX7_passWatched_85 : decode cX7_passWatched 85 = .ok (.getfield 31, 3) := by decide +kernel
theorem dX7_passWatched_88 : decode cX7_passWatched 88 = .ok (.invokestatic 69, 3) := by decide +kernel
theorem dX7_passWatched_91 : decode cX7_passWatched 91 = .ok (.imul, 1) := by decide +kernel
theorem dX7_passWatched_92 : decode cX7_passWatched 92 = .ok (.iadd, 1) := by decide +kernel
theorem dX7_passWatched_93 : decode cX7_passWatched 93 = .ok (.invokestatic 61, 3) := by decide +kernel
theorem dX7_passWatched_96 : decode cX7_passWatched 96 = .ok (.putfield 25, 3) := by decide +kernel
theorem dX7_passWatched_99 : decode cX7_passWatched 99 = .ok (.iconst 0, 1) := by decide +kernel
theorem dX7_passWatched_100 : decode cX7_passWatched 100 = .ok (.istore 5, 2) := by decide +kernel
theorem dX7_passWatched_102 : decode cX7_passWatched 102 = .ok (.iload 5, 2) := by decide +kernel
theorem dX7_passWatched_104 : decode cX7_passWatched 104 = .ok (.bipush 6, 2) := by decide +kernel
theorem dX7_passWatched_106 : decode cX7_passWatched 106 = .ok (.if_icmp .ge 26, 3) := by decide +kernel
theorem dX7_passWatched_109 : decode cX7_passWatched 109 = .ok (.aload_n 0, 1) := by decide +kernel
theorem dX7_passWatched_110 : decode cX7_passWatched 110 = .ok (.getfield 15, 3) := by decide +kernel
theorem dX7_passWatched_113 : decode cX7_passWatched 113 = .ok (.iload 5, 2) := by decide +kernel
theorem dX7_passWatched_115 : decode cX7_passWatched 115 = .ok (.dup2, 1) := by decide +kernel
theorem dX7_passWatched_116 : decode cX7_passWatched 116 = .ok (.iaload, 1) := by decide +kernel
theorem dX7_passWatched_117 : decode cX7_passWatched 117 = .ok (.iload 4, 2) := by decide +kernel
theorem dX7_passWatched_119 : decode cX7_passWatched 119 = .ok (.iload 5, 2) := by decide +kernel
theorem dX7_passWatched_121 : decode cX7_passWatched 121 = .ok (.ishr, 1) := by decide +kernel
theorem dX7_passWatched_122 : decode cX7_passWatched 122 = .ok (.iconst 1, 1) := by decide +kernel
theorem dX7_passWatched_123 : decode cX7_passWatched 123 = .ok (.iand, 1) := by decide +kernel
theorem dX7_passWatched_124 : decode cX7_passWatched 124 = .ok (.iadd, 1) := by decide +kernel
theorem dX7_passWatched_125 : decode cX7_passWatched 125 = .ok (.iastore, 1) := by decide +kernel
theorem dX7_passWatched_126 : decode cX7_passWatched 126 = .ok (.iinc 5 1, 3) := by decide +kernel
theorem dX7_passWatched_129 : decode cX7_passWatched 129 = .ok (.goto (-27), 3) := by decide +kernel
theorem dX7_passWatched_132 : decode cX7_passWatched 132 = .ok (.aload_n 0, 1) := by decide +kernel
theorem dX7_passWatched_133 : decode cX7_passWatched 133 = .ok (.aload_n 1, 1) := by decide +kernel
theorem dX7_passWatched_134 : decode cX7_passWatched 134 = .ok (.invokevirtual 75, 3) := by decide +kernel
theorem dX7_passWatched_137 : decode cX7_passWatched 137 = .ok (.return_, 1) := by decide +kernel
theorem dX7_passResting_0 : decode cX7_passResting 0 = .ok (.aload_n 1, 1) := by decide +kernel
theorem dX7_passResting_1 : decode cX7_passResting 1 = .ok (.aload_n 0, 1) := by decide +kernel
theorem dX7_passResting_2 : decode cX7_passResting 2 = .ok (.getfield 9, 3) := by decide +kernel
theorem dX7_passResting_5 : decode cX7_passResting 5 = .ok (.iconst 0, 1) := by decide +kernel
theorem dX7_passResting_6 : decode cX7_passResting 6 = .ok (.iconst 0, 1) := by decide +kernel
theorem dX7_passResting_7 : decode cX7_passResting 7 = .ok (.invokevirtual 51, 3) := by decide +kernel
theorem dX7_passResting_10 : decode cX7_passResting 10 = .ok (.pop, 1) := by decide +kernel
theorem dX7_passResting_11 : decode cX7_passResting 11 = .ok (.aload_n 0, 1) := by decide +kernel
theorem dX7_passResting_12 : decode cX7_passResting 12 = .ok (.iconst 0, 1) := by decide +kernel
theorem dX7_passResting_13 : decode cX7_passResting 13 = .ok (.putfield 28, 3) := by decide +kernel
theorem dX7_passResting_16 : decode cX7_passResting 16 = .ok (.aload_n 0, 1) := by decide +kernel
theorem dX7_passResting_17 : decode cX7_passResting 17 = .ok (.iconst 0, 1) := by decide +kernel
theorem dX7_passResting_18 : decode cX7_passResting 18 = .ok (.putfield 31, 3) := by decide +kernel
theorem dX7_passResting_21 : decode cX7_passResting 21 = .ok (.aload_n 0, 1) := by decide +kernel
theorem dX7_passResting_22 : decode cX7_passResting 22 = .ok (.aload_n 1, 1) := by decide +kernel
theorem dX7_passResting_23 : decode cX7_passResting 23 = .ok (.invokevirtual 75, 3) := by decide +kernel
theorem dX7_passResting_26 : decode cX7_passResting 26 = .ok (.return_, 1) := by decide +kernel
theorem dX7_endHour_0 : decode cX7_endHour 0 = .ok (.aload_n 0, 1) := by decide +kernel
theorem dX7_endHour_1 : decode cX7_endHour 1 = .ok (.dup, 1) := by decide +kernel
theorem dX7_endHour_2 : decode cX7_endHour 2 = .ok (.getfield 18, 3) := by decide +kernel
theorem dX7_endHour_5 : decode cX7_endHour 5 = .ok (.iconst 1, 1) := by decide +kernel
theorem dX7_endHour_6 : decode cX7_endHour 6 = .ok (.iadd, 1) := by decide +kernel
theorem dX7_endHour_7 : decode cX7_endHour 7 = .ok (.putfield 18, 3) := by decide +kernel
theorem dX7_endHour_10 : decode cX7_endHour 10 = .ok (.aload_n 1, 1) := by decide +kernel
theorem dX7_endHour_11 : decode cX7_endHour 11 = .ok (.getfield 79, 3) := by decide +kernel
theorem dX7_endHour_14 : decode cX7_endHour 14 = .ok (.ifCond .le 20, 3) := by decide +kernel
theorem dX7_endHour_17 : decode cX7_endHour 17 = .ok (.aload_n 0, 1) := by decide +kernel
theorem dX7_endHour_18 : decode cX7_endHour 18 = .ok (.getfield 18, 3) := by decide +kernel
theorem dX7_endHour_21 : decode cX7_endHour 21 = .ok (.aload_n 1, 1) := by decide +kernel
theorem dX7_endHour_22 : decode cX7_endHour 22 = .ok (.getfield 79, 3) := by decide +kernel
theorem dX7_endHour_25 : decode cX7_endHour 25 = .ok (.irem, 1) := by decide +kernel
theorem dX7_endHour_26 : decode cX7_endHour 26 = .ok (.ifCond .ne 8, 3) := by decide +kernel
theorem dX7_endHour_29 : decode cX7_endHour 29 = .ok (.aload_n 0, 1) := by decide +kernel
theorem dX7_endHour_30 : decode cX7_endHour 30 = .ok (.iconst 0, 1) := by decide +kernel
theorem dX7_endHour_31 : decode cX7_endHour 31 = .ok (.putfield 37, 3) := by decide +kernel
theorem dX7_endHour_34 : decode cX7_endHour 34 = .ok (.return_, 1) := by decide +kernel
theorem dX7_partOf_0 : decode cX7_partOf 0 = .ok (.iload_n 1, 1) := by decide +kernel
theorem dX7_partOf_1 : decode cX7_partOf 1 = .ok (.ifCond .lt 9, 3) := by decide +kernel
theorem dX7_partOf_4 : decode cX7_partOf 4 = .ok (.iload_n 1, 1) := by decide +kernel
theorem dX7_partOf_5 : decode cX7_partOf 5 = .ok (.bipush 6, 2) := by decide +kernel
theorem dX7_partOf_7 : decode cX7_partOf 7 = .ok (.if_icmp .lt 5, 3) := by decide +kernel
theorem dX7_partOf_10 : decode cX7_partOf 10 = .ok (.iconst 0, 1) := by decide +kernel
theorem dX7_partOf_11 : decode cX7_partOf 11 = .ok (.ireturn, 1) := by decide +kernel
theorem dX7_partOf_12 : decode cX7_partOf 12 = .ok (.lconst 0, 1) := by decide +kernel
theorem dX7_partOf_13 : decode cX7_partOf 13 = .ok (.lstore_n 3, 1) := by decide +kernel
theorem dX7_partOf_14 : decode cX7_partOf 14 = .ok (.iconst 0, 1) := by decide +kernel
theorem dX7_partOf_15 : decode cX7_partOf 15 = .ok (.istore 5, 2) := by decide +kernel
theorem dX7_partOf_17 : decode cX7_partOf 17 = .ok (.iload 5, 2) := by decide +kernel
theorem dX7_partOf_19 : decode cX7_partOf 19 = .ok (.bipush 6, 2) := by decide +kernel
theorem dX7_partOf_21 : decode cX7_partOf 21 = .ok (.if_icmp .ge 20, 3) := by decide +kernel
theorem dX7_partOf_24 : decode cX7_partOf 24 = .ok (.lload_n 3, 1) := by decide +kernel
theorem dX7_partOf_25 : decode cX7_partOf 25 = .ok (.aload_n 0, 1) := by decide +kernel
theorem dX7_partOf_26 : decode cX7_partOf 26 = .ok (.getfield 15, 3) := by decide +kernel
theorem dX7_partOf_29 : decode cX7_partOf 29 = .ok (.iload 5, 2) := by decide +kernel
theorem dX7_partOf_31 : decode cX7_partOf 31 = .ok (.iaload, 1) := by decide +kernel
theorem dX7_partOf_32 : decode cX7_partOf 32 = .ok (.i2l, 1) := by decide +kernel
theorem dX7_partOf_33 : decode cX7_partOf 33 = .ok (.ladd, 1) := by decide +kernel
theorem dX7_partOf_34 : decode cX7_partOf 34 = .ok (.lstore_n 3, 1) := by decide +kernel
theorem dX7_partOf_35 : decode cX7_partOf 35 = .ok (.iinc 5 1, 3) := by decide +kernel
theorem dX7_partOf_38 : decode cX7_partOf 38 = .ok (.goto (-21), 3) := by decide +kernel
theorem dX7_partOf_41 : decode cX7_partOf 41 = .ok (.lload_n 3, 1) := by decide +kernel
theorem dX7_partOf_42 : decode cX7_partOf 42 = .ok (.lconst 0, 1) := by decide +kernel
theorem dX7_partOf_43 : decode cX7_partOf 43 = .ok (.lcmp, 1) := by decide +kernel
theorem dX7_partOf_44 : decode cX7_partOf 44 = .ok (.ifCond .gt 5, 3) := by decide +kernel
theorem dX7_partOf_47 : decode cX7_partOf 47 = .ok (.iconst 0, 1) := by decide +kernel
theorem dX7_partOf_48 : decode cX7_partOf 48 = .ok (.ireturn, 1) := by decide +kernel
theorem dX7_partOf_49 : decode cX7_partOf 49 = .ok (.iload_n 2, 1) := by decide +kernel
theorem dX7_partOf_50 : decode cX7_partOf 50 = .ok (.i2l, 1) := by decide +kernel
theorem dX7_partOf_51 : decode cX7_partOf 51 = .ok (.aload_n 0, 1) := by decide +kernel
theorem dX7_partOf_52 : decode cX7_partOf 52 = .ok (.getfield 15, 3) := by decide +kernel
theorem dX7_partOf_55 : decode cX7_partOf 55 = .ok (.iload_n 1, 1) := by decide +kernel
theorem dX7_partOf_56 : decode cX7_partOf 56 = .ok (.iaload, 1) := by decide +kernel
theorem dX7_partOf_57 : decode cX7_partOf 57 = .ok (.i2l, 1) := by decide +kernel
theorem dX7_partOf_58 : decode cX7_partOf 58 = .ok (.lmul, 1) := by decide +kernel
theorem dX7_partOf_59 : decode cX7_partOf 59 = .ok (.lload_n 3, 1) := by decide +kernel
theorem dX7_partOf_60 : decode cX7_partOf 60 = .ok (.ldiv, 1) := by decide +kernel
theorem dX7_partOf_61 : decode cX7_partOf 61 = .ok (.l2i, 1) := by decide +kernel
theorem dX7_partOf_62 : decode cX7_partOf 62 = .ok (.ireturn, 1) := by decide +kernel
theorem dX8_init_0 : decode cX8_init 0 = .ok (.aload_n 0, 1) := by decide +kernel
theorem dX8_init_1 : decode cX8_init 1 = .ok (.invokespecial 3, 3) := by decide +kernel
theorem dX8_init_4 : decode cX8_init 4 = .ok (.aload_n 0, 1) := by decide +kernel
theorem dX8_init_5 : decode cX8_init 5 = .ok (.bipush 6, 2) := by decide +kernel
theorem dX8_init_7 : decode cX8_init 7 = .ok (.newarray .int, 2) := by decide +kernel
theorem dX8_init_9 : decode cX8_init 9 = .ok (.putfield 9, 3) := by decide +kernel
theorem dX8_init_12 : decode cX8_init 12 = .ok (.aload_n 0, 1) := by decide +kernel
theorem dX8_init_13 : decode cX8_init 13 = .ok (.bipush 7, 2) := by decide +kernel
theorem dX8_init_15 : decode cX8_init 15 = .ok (.bipush 6, 2) := by decide +kernel
theorem dX8_init_17 : decode cX8_init 17 = .ok (.multianewarray 15 2, 4) := by decide +kernel
theorem dX8_init_21 : decode cX8_init 21 = .ok (.putfield 17, 3) := by decide +kernel
theorem dX8_init_24 : decode cX8_init 24 = .ok (.aload_n 0, 1) := by decide +kernel
theorem dX8_init_25 : decode cX8_init 25 = .ok (.bipush 6, 2) := by decide +kernel
theorem dX8_init_27 : decode cX8_init 27 = .ok (.newarray .int, 2) := by decide +kernel
theorem dX8_init_29 : decode cX8_init 29 = .ok (.putfield 20, 3) := by decide +kernel
theorem dX8_init_32 : decode cX8_init 32 = .ok (.aload_n 0, 1) := by decide +kernel
theorem dX8_init_33 : decode cX8_init 33 = .ok (.bipush 6, 2) := by decide +kernel
theorem dX8_init_35 : decode cX8_init 35 = .ok (.newarray .int, 2) := by decide +kernel
theorem dX8_init_37 : decode cX8_init 37 = .ok (.putfield 23, 3) := by decide +kernel
theorem dX8_init_40 : decode cX8_init 40 = .ok (.return_, 1) := by decide +kernel
theorem dX8_layRow_0 : decode cX8_layRow 0 = .ok (.aload_n 1, 1) := by decide +kernel
theorem dX8_layRow_1 : decode cX8_layRow 1 = .ok (.getfield 26, 3) := by decide +kernel
theorem dX8_layRow_4 : decode cX8_layRow 4 = .ok (.iconst 0, 1) := by decide +kernel
theorem dX8_layRow_5 : decode cX8_layRow 5 = .ok (.aload_n 0, 1) := by decide +kernel
theorem dX8_layRow_6 : decode cX8_layRow 6 = .ok (.getfield 17, 3) := by decide +kernel
theorem dX8_layRow_9 : decode cX8_layRow 9 = .ok (.iconst 0, 1) := by decide +kernel
theorem dX8_layRow_10 : decode cX8_layRow 10 = .ok (.aaload, 1) := by decide +kernel
theorem dX8_layRow_11 : decode cX8_layRow 11 = .ok (.iconst 0, 1) := by decide +kernel
theorem dX8_layRow_12 : decode cX8_layRow 12 = .ok (.bipush 6, 2) := by decide +kernel
theorem dX8_layRow_14 : decode cX8_layRow 14 = .ok (.invokestatic 31, 3) := by decide +kernel
theorem dX8_layRow_17 : decode cX8_layRow 17 = .ok (.return_, 1) := by decide +kernel
theorem dX8_findWatches_0 : decode cX8_findWatches 0 = .ok (.aload_n 0, 1) := by decide +kernel
theorem dX8_findWatches_1 : decode cX8_findWatches 1 = .ok (.aload_n 2, 1) := by decide +kernel
theorem dX8_findWatches_2 : decode cX8_findWatches 2 = .ok (.invokevirtual 37, 3) := by decide +kernel
theorem dX8_findWatches_5 : decode cX8_findWatches 5 = .ok (.aload_n 0, 1) := by decide +kernel
theorem dX8_findWatches_6 : decode cX8_findWatches 6 = .ok (.sipush 200, 3) := by decide +kernel
theorem dX8_findWatches_9 : decode cX8_findWatches 9 = .ok (.putfield 41, 3) := by decide +kernel
theorem dX8_findWatches_12 : decode cX8_findWatches 12 = .ok (.aload_n 0, 1) := by decide +kernel
theorem dX8_findWatches_13 : decode cX8_findWatches 13 = .ok (.aload_n 1, 1) := by decide +kernel
theorem dX8_findWatches_14 : decode cX8_findWatches 14 = .ok (.iconst 0, 1) := by decide +kernel
theorem dX8_findWatches_15 : decode cX8_findWatches 15 = .ok (.invokevirtual 45, 3) := by decide +kernel
theorem dX8_findWatches_18 : decode cX8_findWatches 18 = .ok (.aload_n 0, 1) := by decide +kernel
theorem dX8_findWatches_19 : decode cX8_findWatches 19 = .ok (.getfield 41, 3) := by decide +kernel
theorem dX8_findWatches_22 : decode cX8_findWatches 22 = .ok (.sipush 199, 3) := by decide +kernel
theorem dX8_findWatches_25 : decode cX8_findWatches 25 = .ok (.if_icmp .gt 7, 3) := by decide +kernel
theorem dX8_findWatches_28 : decode cX8_findWatches 28 = .ok (.iconst 1, 1) := by decide +kernel
theorem dX8_findWatches_29 : decode cX8_findWatches 29 = .ok (.goto 4, 3) := by decide +kernel
theorem dX8_findWatches_32 : decode cX8_findWatches 32 = .ok (.iconst 0, 1) := by decide +kernel
theorem dX8_findWatches_33 : decode cX8_findWatches 33 = .ok (.ireturn, 1) := by decide +kernel
theorem dX8_chooseFrom_0 : decode cX8_chooseFrom 0 = .ok (.iload_n 2, 1) := by decide +kernel
theorem dX8_chooseFrom_1 : decode cX8_chooseFrom 1 = .ok (.ifCond .lt 9, 3) := by decide +kernel
theorem dX8_chooseFrom_4 : decode cX8_chooseFrom 4 = .ok (.iload_n 2, 1) := by decide +kernel
theorem dX8_chooseFrom_5 : decode cX8_chooseFrom 5 = .ok (.bipush 6, 2) := by decide +kernel
theorem dX8_chooseFrom_7 : decode cX8_chooseFrom 7 = .ok (.if_icmp .lt 4, 3) := by decide +kernel
theorem dX8_chooseFrom_10 : decode cX8_chooseFrom 10 = .ok (.return_, 1) := by decide +kernel
theorem dX8_chooseFrom_11 : decode cX8_chooseFrom 11 = .ok (.iconst 0, 1) := by decide +kernel
theorem dX8_chooseFrom_12 : decode cX8_chooseFrom 12 = .ok (.istore_n 3, 1) := by decide +kernel
theorem dX8_chooseFrom_13 : decode cX8_chooseFrom 13 = .ok (.iload_n 3, 1) := by decide +kernel
theorem dX8_chooseFrom_14 : decode cX8_chooseFrom 14 = .ok (.aload_n 1, 1) := by decide +kernel
theorem dX8_chooseFrom_15 : decode cX8_chooseFrom 15 = .ok (.getfield 49, 3) := by decide +kernel
theorem dX8_chooseFrom_18 : decode cX8_chooseFrom 18 = .ok (.if_icmp .ge 126, 3) := by decide +kernel
theorem dX8_chooseFrom_21 : decode cX8_chooseFrom 21 = .ok (.iload_n 3, 1) := by decide +kernel
theorem dX8_chooseFrom_22 : decode cX8_chooseFrom 22 = .ok (.bipush 6, 2) := by decide +kernel
theorem dX8_chooseFrom_24 : decode cX8_chooseFrom 24 = .ok (.if_icmp .ge 120, 3) := by decide +kernel
theorem dX8_chooseFrom_27 : decode cX8_chooseFrom 27 = .ok (.aload_n 0, 1) := by decide +kernel
theorem dX8_chooseFrom_28 : decode cX8_chooseFrom 28 = .ok (.getfield 17, 3) := by decide +kernel
theorem dX8_chooseFrom_31 : decode cX8_chooseFrom 31 = .ok (.iload_n 2, 1) := by decide +kernel
theorem dX8_chooseFrom_32 : decode cX8_chooseFrom 32 = .ok (.aaload, 1) := by decide +kernel
theorem dX8_chooseFrom_33 : decode cX8_chooseFrom 33 = .ok (.iconst 0, 1) := by decide +kernel
theorem dX8_chooseFrom_34 : decode cX8_chooseFrom 34 = .ok (.aload_n 0, 1) := by decide +kernel
theorem dX8_chooseFrom_35 : decode cX8_chooseFrom 35 = .ok (.getfield 17, 3) := by decide +kernel
theorem dX8_chooseFrom_38 : decode cX8_chooseFrom 38 = .ok (.iload_n 2, 1) := by decide +kernel
theorem dX8_chooseFrom_39 : decode cX8_chooseFrom 39 = .ok (.iconst 1, 1) := by decide +kernel
theorem dX8_chooseFrom_40 : decode cX8_chooseFrom 40 = .ok (.iadd, 1) := by decide +kernel
theorem dX8_chooseFrom_41 : decode cX8_chooseFrom 41 = .ok (.aaload, 1) := by decide +kernel
theorem dX8_chooseFrom_42 : decode cX8_chooseFrom 42 = .ok (.iconst 0, 1) := by decide +kernel
theorem dX8_chooseFrom_43 : decode cX8_chooseFrom 43 = .ok (.bipush 6, 2) := by decide +kernel
theorem dX8_chooseFrom_45 : decode cX8_chooseFrom 45 = .ok (.invokestatic 31, 3) := by decide +kernel
theorem dX8_chooseFrom_48 : decode cX8_chooseFrom 48 = .ok (.aload_n 0, 1) := by decide +kernel
theorem dX8_chooseFrom_49 : decode cX8_chooseFrom 49 = .ok (.getfield 20, 3) := by decide +kernel
theorem dX8_chooseFrom_52 : decode cX8_chooseFrom 52 = .ok (.iload_n 2, 1) := by decide +kernel
theorem dX8_chooseFrom_53 : decode cX8_chooseFrom 53 = .ok (.iload_n 3, 1) := by decide +kernel
theorem dX8_chooseFrom_54 : decode cX8_chooseFrom 54 = .ok (.iastore, 1) := by decide +kernel
theorem dX8_chooseFrom_55 : decode cX8_chooseFrom 55 = .ok (.aload_n 1, 1) := by decide +kernel
theorem dX8_chooseFrom_56 : decode cX8_chooseFrom 56 = .ok (.aload_n 0, 1) := by decide +kernel
theorem dX8_chooseFrom_57 : decode cX8_chooseFrom 57 = .ok (.getfield 17, 3) := by decide +kernel
theorem dX8_chooseFrom_60 : decode cX8_chooseFrom 60 = .ok (.iload_n 2, 1) := by decide +kernel
theorem dX8_chooseFrom_61 : decode cX8_chooseFrom 61 = .ok (.iconst 1, 1) := by decide +kernel
theorem dX8_chooseFrom_62 : decode cX8_chooseFrom 62 = .ok (.iadd, 1) := by decide +kernel
theorem dX8_chooseFrom_63 : decode cX8_chooseFrom 63 = .ok (.aaload, 1) := by decide +kernel
theorem dX8_chooseFrom_64 : decode cX8_chooseFrom 64 = .ok (.iconst 1, 1) := by decide +kernel
theorem dX8_chooseFrom_65 : decode cX8_chooseFrom 65 = .ok (.iload_n 3, 1) := by decide +kernel
theorem dX8_chooseFrom_66 : decode cX8_chooseFrom 66 = .ok (.ishl, 1) := by decide +kernel
theorem dX8_chooseFrom_67 : decode cX8_chooseFrom 67 = .ok (.iconst 0, 1) := by decide +kernel
theorem dX8_chooseFrom_68 : decode cX8_chooseFrom 68 = .ok (.invokevirtual 54, 3) := by decide +kernel
theorem dX8_chooseFrom_71 : decode cX8_chooseFrom 71 = .ok (.ifCond .eq 6, 3) := by decide +kernel
theorem dX8_chooseFrom_74 : decode cX8_chooseFrom 74 = .ok (.goto 64, 3) := by decide +kernel
theorem dX8_chooseFrom_77 : decode cX8_chooseFrom 77 = .ok (.aload_n 1, 1) := by decide +kernel
theorem dX8_chooseFrom_78 : decode cX8_chooseFrom 78 = .ok (.getfield 58, 3) := by decide +kernel
theorem dX8_chooseFrom_81 : decode cX8_chooseFrom 81 = .ok (.iload_n 2, 1) := by decide +kernel
theorem dX8_chooseFrom_82 : decode cX8_chooseFrom 82 = .ok (.isub, 1) := by decide +kernel
theorem dX8_chooseFrom_83 : decode cX8_chooseFrom 83 = .ok (.iconst 1, 1) := by decide +kernel
theorem dX8_chooseFrom_84 : decode cX8_chooseFrom 84 = .ok (.isub, 1) := by decide +kernel
theorem dX8_chooseFrom_85 : decode cX8_chooseFrom 85 = .ok (.istore 4, 2) := by decide +kernel
theorem dX8_chooseFrom_87 : decode cX8_chooseFrom 87 = .ok (.aload_n 0, 1) := by decide +kernel
theorem dX8_chooseFrom_88 : decode cX8_chooseFrom 88 = .ok (.aload_n 1, 1) := by decide +kernel
theorem dX8_chooseFrom_89 : decode cX8_chooseFrom 89 = .ok (.aload_n 0, 1) := by decide +kernel
theorem dX8_chooseFrom_90 : decode cX8_chooseFrom 90 = .ok (.getfield 17, 3) := by decide +kernel
theorem dX8_chooseFrom_93 : decode cX8_chooseFrom 93 = .ok (.iload_n 2, 1) := by decide +kernel
theorem dX8_chooseFrom_94 : decode cX8_chooseFrom 94 = .ok (.iconst 1, 1) := by decide +kernel
theorem dX8_chooseFrom_95 : decode cX8_chooseFrom 95 = .ok (.iadd, 1) := by decide +kernel
theorem dX8_chooseFrom_96 : decode cX8_chooseFrom 96 = .ok (.aaload, 1) := by decide +kernel
theorem dX8_chooseFrom_97 : decode cX8_chooseFrom 97 = .ok (.iload 4, 2) := by decide +kernel
theorem dX8_chooseFrom_99 : decode cX8_chooseFrom 99 = .ok (.invokevirtual 61, 3) := by decide +kernel
theorem dX8_chooseFrom_102 : decode cX8_chooseFrom 102 = .ok (.istore 5, 2) := by decide +kernel
theorem dX8_chooseFrom_104 : decode cX8_chooseFrom 104 = .ok (.iload 5, 2) := by decide +kernel
theorem dX8_chooseFrom_106 : decode cX8_chooseFrom 106 = .ok (.aload_n 0, 1) := by decide +kernel
theorem dX8_chooseFrom_107 : decode cX8_chooseFrom 107 = .ok (.getfield 41, 3) := by decide +kernel
theorem dX8_chooseFrom_110 : decode cX8_chooseFrom 110 = .ok (.if_icmp .lt 6, 3) := by decide +kernel
theorem dX8_chooseFrom_113 : decode cX8_chooseFrom 113 = .ok (.goto 25, 3) := by decide +kernel
theorem dX8_chooseFrom_116 : decode cX8_chooseFrom 116 = .ok (.iload 4, 2) := by decide +kernel
theorem dX8_chooseFrom_118 : decode cX8_chooseFrom 118 = .ok (.ifCond .le 14, 3) := by decide +kernel
theorem dX8_chooseFrom_121 : decode cX8_chooseFrom 121 = .ok (.aload_n 0, 1) := by decide +kernel
theorem dX8_chooseFrom_122 : decode cX8_chooseFrom 122 = .ok (.aload_n 1, 1) := by decide +kernel
theorem dX8_chooseFrom_123 : decode cX8_chooseFrom 123 = .ok (.iload_n 2, 1) := by decide +kernel
theorem dX8_chooseFrom_124 : decode cX8_chooseFrom 124 = .ok (.iconst 1, 1) := by decide +kernel
theorem dX8_chooseFrom_125 : decode cX8_chooseFrom 125 = .ok (.iadd, 1) := by decide +kernel
theorem dX8_chooseFrom_126 : decode cX8_chooseFrom 126 = .ok (.invokevirtual 45, 3) := by decide +kernel
theorem dX8_chooseFrom_129 : decode cX8_chooseFrom 129 = .ok (.goto 9, 3) := by decide +kernel
theorem dX8_chooseFrom_132 : decode cX8_chooseFrom 132 = .ok (.aload_n 0, 1) := by decide +kernel
theorem dX8_chooseFrom_133 : decode cX8_chooseFrom 133 = .ok (.iload 5, 2) := by decide +kernel
theorem dX8_chooseFrom_135 : decode cX8_chooseFrom 135 = .ok (.invokevirtual 65, 3) := by decide +kernel
theorem dX8_chooseFrom_138 : decode cX8_chooseFrom 138 = .ok (.iinc 3 1, 3) := by decide +kernel
theorem dX8_chooseFrom_141 : decode cX8_chooseFrom 141 = .ok (.goto (-128), 3) := by decide +kernel
theorem dX8_chooseFrom_144 : decode cX8_chooseFrom 144 = .ok (.return_, 1) := by decide +kernel
theorem dX8_leastPossibleEnd_0 : decode cX8_leastPossibleEnd 0 = .ok (.iconst 0, 1) := by decide +kernel
theorem dX8_leastPossibleEnd_1 : decode cX8_leastPossibleEnd 1 = .ok (.istore 4, 2) := by decide +kernel
theorem dX8_leastPossibleEnd_3 : decode cX8_leastPossibleEnd 3 = .ok (.iconst 0, 1) := by decide +kernel
theorem dX8_leastPossibleEnd_4 : decode cX8_leastPossibleEnd 4 = .ok (.istore 5, 2) := by decide +kernel
theorem dX8_leastPossibleEnd_6 : decode cX8_leastPossibleEnd 6 = .ok (.iload 5, 2) := by decide +kernel
theorem dX8_leastPossibleEnd_8 : decode cX8_leastPossibleEnd 8 = .ok (.aload_n 1, 1) := by decide +kernel
theorem dX8_leastPossibleEnd_9 : decode cX8_leastPossibleEnd 9 = .ok (.getfield 49, 3) := by decide +kernel
theorem dX8_leastPossibleEnd_12 : decode cX8_leastPossibleEnd 12 = .ok (.if_icmp .ge 37, 3) := by decide +kernel
theorem dX8_leastPossibleEnd_15 : decode cX8_leastPossibleEnd 15 = .ok (.iload 5, 2) := by decide +kernel
theorem dX8_leastPossibleEnd_17 : decode cX8_leastPossibleEnd 17 = .ok (.bipush 6, 2) := by decide +kernel
theorem dX8_leastPossibleEnd_19 : decode cX8_leastPossibleEnd 19 = .ok (.if_icmp .ge 30, 3) := by decide +kernel
theorem dX8_leastPossibleEnd_22 : decode cX8_leastPossibleEnd 22 = .ok (.iload 4, 2) := by decide +kernel
theorem dX8_leastPossibleEnd_24 : decode cX8_leastPossibleEnd 24 = .ok (.aload_n 2, 1) := by decide +kernel
theorem dX8_leastPossibleEnd_25 : decode cX8_leastPossibleEnd 25 = .ok (.iload 5, 2) := by decide +kernel
theorem dX8_leastPossibleEnd_27 : decode cX8_leastPossibleEnd 27 = .ok (.iaload, 1) := by decide +kernel
theorem dX8_leastPossibleEnd_28 : decode cX8_leastPossibleEnd 28 = .ok (.aload_n 1, 1) := by decide +kernel
theorem dX8_leastPossibleEnd_29 : decode cX8_leastPossibleEnd 29 = .ok (.getfield 69, 3) := by decide +kernel
theorem dX8_leastPossibleEnd_32 : decode cX8_leastPossibleEnd 32 = .ok (.iload 5, 2) := by decide +kernel
theorem dX8_leastPossibleEnd_34 : decode cX8_leastPossibleEnd 34 = .ok (.iaload, 1) := by decide +kernel
theorem dX8_leastPossibleEnd_35 : decode cX8_leastPossibleEnd 35 = .ok (.iload_n 3, 1) := by decide +kernel
theorem dX8_leastPossibleEnd_36 : decode cX8_leastPossibleEnd 36 = .ok (.imul, 1) := by decide +kernel
theorem dX8_leastPossibleEnd_37 : decode cX8_leastPossibleEnd 37 = .ok (.isub, 1) := by decide +kernel
theorem dX8_leastPossibleEnd_38 : decode cX8_leastPossibleEnd 38 = .ok (.invokestatic 72, 3) := by decide +kernel
theorem dX8_leastPossibleEnd_41 : decode cX8_leastPossibleEnd 41 = .ok (.istore 4, 2) := by decide +kernel
theorem dX8_leastPossibleEnd_43 : decode cX8_leastPossibleEnd 43 = .ok (.iinc 5 1, 3) := by decide +kernel
theorem dX8_leastPossibleEnd_46 : decode cX8_leastPossibleEnd 46 = .ok (.goto (-40), 3) := by decide +kernel
theorem dX8_leastPossibleEnd_49 : decode cX8_leastPossibleEnd 49 = .ok (.iload 4, 2) := by decide +kernel
theorem dX8_leastPossibleEnd_51 : decode cX8_leastPossibleEnd 51 = .ok (.ireturn, 1) := by decide +kernel
theorem dX8_takeChosen_0 : decode cX8_takeChosen 0 = .ok (.aload_n 0, 1) := by decide +kernel
theorem dX8_takeChosen_1 : decode cX8_takeChosen 1 = .ok (.iload_n 1, 1) := by decide +kernel
theorem dX8_takeChosen_2 : decode cX8_takeChosen 2 = .ok (.putfield 41, 3) := by decide +kernel
theorem dX8_takeChosen_5 : decode cX8_takeChosen 5 = .ok (.aload_n 0, 1) := by decide +kernel
theorem dX8_takeChosen_6 : decode cX8_takeChosen 6 = .ok (.getfield 20, 3) := by decide +kernel
theorem dX8_takeChosen_9 : decode cX8_takeChosen 9 = .ok (.iconst 0, 1) := by decide +kernel
theorem dX8_takeChosen_10 : decode cX8_takeChosen 10 = .ok (.aload_n 0, 1) := by decide +kernel
theorem dX8_takeChosen_11 : decode cX8_takeChosen 11 = .ok (.getfield 9, 3) := by decide +kernel
theorem dX8_takeChosen_14 : decode cX8_takeChosen 14 = .ok (.iconst 0, 1) := by decide +kernel
theorem dX8_takeChosen_15 : decode cX8_takeChosen 15 = .ok (.bipush 6, 2) := by decide +kernel
theorem dX8_takeChosen_17 : decode cX8_takeChosen 17 = .ok (.invokestatic 31, 3) := by decide +kernel
theorem dX8_takeChosen_20 : decode cX8_takeChosen 20 = .ok (.return_, 1) := by decide +kernel
theorem dX8_nodsWithBell_0 : decode cX8_nodsWithBell 0 = .ok (.aload_n 0, 1) := by decide +kernel
theorem dX8_nodsWithBell_1 : decode cX8_nodsWithBell 1 = .ok (.aload_n 2, 1) := by decide +kernel
theorem dX8_nodsWithBell_2 : decode cX8_nodsWithBell 2 = .ok (.invokevirtual 37, 3) := by decide +kernel
theorem dX8_nodsWithBell_5 : decode cX8_nodsWithBell 5 = .ok (.aload_n 0, 1) := by decide +kernel
theorem dX8_nodsWithBell_6 : decode cX8_nodsWithBell 6 = .ok (.aload_n 1, 1) := by decide +kernel
theorem dX8_nodsWithBell_7 : decode cX8_nodsWithBell 7 = .ok (.iload_n 3, 1) := by decide +kernel
theorem dX8_nodsWithBell_8 : decode cX8_nodsWithBell 8 = .ok (.invokevirtual 78, 3) := by decide +kernel
theorem dX8_nodsWithBell_11 : decode cX8_nodsWithBell 11 = .ok (.ireturn, 1) := by decide +kernel
theorem dX8_nodsWithCoffee_0 : decode cX8_nodsWithCoffee 0 = .ok (.aload_n 0, 1) := by decide +kernel
theorem dX8_nodsWithCoffee_1 : decode cX8_nodsWithCoffee 1 = .ok (.aload_n 2, 1) := by decide +kernel
theorem dX8_nodsWithCoffee_2 : decode cX8_nodsWithCoffee 2 = .ok (.invokevirtual 37, 3) := by decide +kernel
theorem dX8_nodsWithCoffee_5 : decode cX8_nodsWithCoffee 5 = .ok (.iload_n 3, 1) := by decide +kernel
theorem dX8_nodsWithCoffee_6 : decode cX8_nodsWithCoffee 6 = .ok (.ifCond .lt 28, 3) := by decide +kernel
theorem dX8_nodsWithCoffee_9 : decode cX8_nodsWithCoffee 9 = .ok (.iload_n 3, 1) := by decide +kernel
theorem dX8_nodsWithCoffee_10 : decode cX8_nodsWithCoffee 10 = .ok (.bipush 6, 2) := by decide +kernel
theorem dX8_nodsWithCoffee_12 : decode cX8_nodsWithCoffee 12 = .ok (.if_icmp .ge 22, 3) := by decide +kernel
theorem dX8_nodsWithCoffee_15 : decode cX8_nodsWithCoffee 15 = .ok (.aload_n 0, 1) := by decide +kernel
theorem dX8_nodsWithCoffee_16 : decode cX8_nodsWithCoffee 16 = .ok (.getfield 17, 3) := by decide +kernel
theorem dX8_nodsWithCoffee_19 : decode cX8_nodsWithCoffee 19 = .ok (.iconst 0, 1) := by decide +kernel
theorem dX8_nodsWithCoffee_20 : decode cX8_nodsWithCoffee 20 = .ok (.aaload, 1) := by decide +kernel
theorem dX8_nodsWithCoffee_21 : decode cX8_nodsWithCoffee 21 = .ok (.iload_n 3, 1) := by decide +kernel
theorem dX8_nodsWithCoffee_22 : decode cX8_nodsWithCoffee 22 = .ok (.aload_n 0, 1) := by decide +kernel
theorem dX8_nodsWithCoffee_23 : decode cX8_nodsWithCoffee 23 = .ok (.getfield 17, 3) := by decide +kernel
theorem dX8_nodsWithCoffee_26 : decode cX8_nodsWithCoffee 26 = .ok (.iconst 0, 1) := by decide +kernel
theorem dX8_nodsWithCoffee_27 : decode cX8_nodsWithCoffee 27 = .ok (.aaload, 1) := by decide +kernel
theorem dX8_nodsWithCoffee_28 : decode cX8_nodsWithCoffee 28 = .ok (.iload_n 3, 1) := by decide +kernel
theorem dX8_nodsWithCoffee_29 : decode cX8_nodsWithCoffee 29 = .ok (.iaload, 1) := by decide +kernel
theorem dX8_nodsWithCoffee_30 : decode cX8_nodsWithCoffee 30 = .ok (.invokestatic 82, 3) := by decide +kernel
theorem dX8_nodsWithCoffee_33 : decode cX8_nodsWithCoffee 33 = .ok (.iastore, 1) := by decide +kernel
theorem dX8_nodsWithCoffee_34 : decode cX8_nodsWithCoffee 34 = .ok (.aload_n 0, 1) := by decide +kernel
theorem dX8_nodsWithCoffee_35 : decode cX8_nodsWithCoffee 35 = .ok (.aload_n 1, 1) := by decide +kernel
theorem dX8_nodsWithCoffee_36 : decode cX8_nodsWithCoffee 36 = .ok (.iconst (-1), 1) := by decide +kernel
theorem dX8_nodsWithCoffee_37 : decode cX8_nodsWithCoffee 37 = .ok (.invokevirtual 78, 3) := by decide +kernel
theorem dX8_nodsWithCoffee_40 : decode cX8_nodsWithCoffee 40 = .ok (.ireturn, 1) := by decide +kernel
theorem dX8_nodsOfAll_0 : decode cX8_nodsOfAll 0 = .ok (.iconst 0, 1) := by decide +kernel
theorem dX8_nodsOfAll_1 : decode cX8_nodsOfAll 1 = .ok (.istore_n 3, 1) := by decide +kernel
theorem dX8_nodsOfAll_2 : decode cX8_nodsOfAll 2 = .ok (.iconst 0, 1) := by decide +kernel
theorem dX8_nodsOfAll_3 : decode cX8_nodsOfAll 3 = .ok (.istore 4, 2) := by decide +kernel
theorem dX8_nodsOfAll_5 : decode cX8_nodsOfAll 5 = .ok (.iload 4, 2) := by decide +kernel
theorem dX8_nodsOfAll_7 : decode cX8_nodsOfAll 7 = .ok (.aload_n 1, 1) := by decide +kernel
theorem dX8_nodsOfAll_8 : decode cX8_nodsOfAll 8 = .ok (.getfield 58, 3) := by decide +kernel
theorem dX8_nodsOfAll_11 : decode cX8_nodsOfAll 11 = .ok (.if_icmp .ge 47, 3) := by decide +kernel
theorem dX8_nodsOfAll_14 : decode cX8_nodsOfAll 14 = .ok (.iload 4, 2) := by decide +kernel
theorem dX8_nodsOfAll_16 : decode cX8_nodsOfAll 16 = .ok (.bipush 6, 2) := by decide +kernel
theorem dX8_nodsOfAll_18 : decode cX8_nodsOfAll 18 = .ok (.if_icmp .ge 40, 3) := by decide +kernel
theorem dX8_nodsOfAll_21 : decode cX8_nodsOfAll 21 = .ok (.iload_n 3, 1) := by decide +kernel
theorem dX8_nodsOfAll_22 : decode cX8_nodsOfAll 22 = .ok (.aload_n 1, 1) := by decide +kernel
theorem dX8_nodsOfAll_23 : decode cX8_nodsOfAll 23 = .ok (.aload_n 0, 1) := by decide +kernel
theorem dX8_nodsOfAll_24 : decode cX8_nodsOfAll 24 = .ok (.getfield 17, 3) := by decide +kernel
theorem dX8_nodsOfAll_27 : decode cX8_nodsOfAll 27 = .ok (.iconst 0, 1) := by decide +kernel
theorem dX8_nodsOfAll_28 : decode cX8_nodsOfAll 28 = .ok (.aaload, 1) := by decide +kernel
theorem dX8_nodsOfAll_29 : decode cX8_nodsOfAll 29 = .ok (.aload_n 1, 1) := by decide +kernel
theorem dX8_nodsOfAll_30 : decode cX8_nodsOfAll 30 = .ok (.invokevirtual 86, 3) := by decide +kernel
theorem dX8_nodsOfAll_33 : decode cX8_nodsOfAll 33 = .ok (.iload 4, 2) := by decide +kernel
theorem dX8_nodsOfAll_35 : decode cX8_nodsOfAll 35 = .ok (.iload_n 2, 1) := by decide +kernel
theorem dX8_nodsOfAll_36 : decode cX8_nodsOfAll 36 = .ok (.if_icmp .ne 7, 3) := by decide +kernel
theorem dX8_nodsOfAll_39 : decode cX8_nodsOfAll 39 = .ok (.iconst 1, 1) := by decide +kernel
theorem dX8_nodsOfAll_40 : decode cX8_nodsOfAll 40 = .ok (.goto 4, 3) := by decide +kernel
theorem dX8_nodsOfAll_43 : decode cX8_nodsOfAll 43 = .ok (.iconst 0, 1) := by decide +kernel
theorem dX8_nodsOfAll_44 : decode cX8_nodsOfAll 44 = .ok (.invokevirtual 54, 3) := by decide +kernel
theorem dX8_nodsOfAll_47 : decode cX8_nodsOfAll 47 = .ok (.invokestatic 90, 3) := by decide +kernel
theorem dX8_nodsOfAll_50 : decode cX8_nodsOfAll 50 = .ok (.iadd, 1) := by decide +kernel
theorem dX8_nodsOfAll_51 : decode cX8_nodsOfAll 51 = .ok (.istore_n 3, 1) := by decide +kernel
theorem dX8_nodsOfAll_52 : decode cX8_nodsOfAll 52 = .ok (.iinc 4 1, 3) := by decide +kernel
theorem dX8_nodsOfAll_55 : decode cX8_nodsOfAll 55 = .ok (.goto (-50), 3) := by decide +kernel
theorem dX8_nodsOfAll_58 : decode cX8_nodsOfAll 58 = .ok (.iload_n 3, 1) := by decide +kernel
theorem dX8_nodsOfAll_59 : decode cX8_nodsOfAll 59 = .ok (.ireturn, 1) := by decide +kernel
theorem dX8_nightsOf_0 : decode cX8_nightsOf 0 = .ok (.aload_n 1, 1) := by decide +kernel
theorem dX8_nightsOf_1 : decode cX8_nightsOf 1 = .ok (.iload_n 3, 1) := by decide +kernel
theorem dX8_nightsOf_2 : decode cX8_nightsOf 2 = .ok (.invokevirtual 95, 3) := by decide +kernel
theorem dX8_nightsOf_5 : decode cX8_nightsOf 5 = .ok (.ifCond .eq 10, 3) := by decide +kernel
theorem dX8_nightsOf_8 : decode cX8_nightsOf 8 = .ok (.aload_n 1, 1) := by decide +kernel
theorem dX8_nightsOf_9 : decode cX8_nightsOf 9 = .ok (.getfield 58, 3) := by decide +kernel
theorem dX8_nightsOf_12 : decode cX8_nightsOf 12 = .ok (.ifCond .gt 5, 3) := by decide +kernel
theorem dX8_nightsOf_15 : decode cX8_nightsOf 15 = .ok (.iconst (-1), 1) := by decide +kernel
theorem dX8_nightsOf_16 : decode cX8_nightsOf 16 = .ok (.ireturn, 1) := by decide +kernel
theorem dX8_nightsOf_17 : decode cX8_nightsOf 17 = .ok (.aload_n 2, 1) := by decide +kernel
theorem dX8_nightsOf_18 : decode cX8_nightsOf 18 = .ok (.getfield 26, 3) := by decide +kernel
theorem dX8_nightsOf_21 : decode cX8_nightsOf 21 = .ok (.iload_n 3, 1) := by decide +kernel
theorem dX8_nightsOf_22 : decode cX8_nightsOf 22 = .ok (.iaload, 1) := by decide +kernel
theorem dX8_nightsOf_23 : decode cX8_nightsOf 23 = .ok (.istore 4, 2) := by decide +kernel
theorem dX8_nightsOf_25 : decode cX8_nightsOf 25 = .ok (.iconst 0, 1) := by decide +kernel
theorem dX8_nightsOf_26 : decode cX8_nightsOf 26 = .ok (.istore 5, 2) := by decide +kernel
theorem dX8_nightsOf_28 : decode cX8_nightsOf 28 = .ok (.iload 5, 2) := by decide +kernel
theorem dX8_nightsOf_30 : decode cX8_nightsOf 30 = .ok (.bipush 100, 2) := by decide +kernel
theorem dX8_nightsOf_32 : decode cX8_nightsOf 32 = .ok (.aload_n 1, 1) := by decide +kernel
theorem dX8_nightsOf_33 : decode cX8_nightsOf 33 = .ok (.getfield 58, 3) := by decide +kernel
theorem dX8_nightsOf_36 : decode cX8_nightsOf 36 = .ok (.imul, 1) := by decide +kernel
theorem dX8_nightsOf_37 : decode cX8_nightsOf 37 = .ok (.if_icmp .ge 45, 3) := by decide +kernel
theorem dX8_nightsOf_40 : decode cX8_nightsOf 40 = .ok (.sipush 199, 3) := by decide +kernel
theorem dX8_nightsOf_43 : decode cX8_nightsOf 43 = .ok (.iload 4, 2) := by decide +kernel
theorem dX8_nightsOf_45 : decode cX8_nightsOf 45 = .ok (.aload_n 1, 1) := by decide +kernel
theorem dX8_nightsOf_46 : decode cX8_nightsOf 46 = .ok (.getfield 99, 3) := by decide +kernel
theorem dX8_nightsOf_49 : decode cX8_nightsOf 49 = .ok (.iload_n 3, 1) := by decide +kernel
theorem dX8_nightsOf_50 : decode cX8_nightsOf 50 = .ok (.iaload, 1) := by decide +kernel
theorem dX8_nightsOf_51 : decode cX8_nightsOf 51 = .ok (.iadd, 1) := by decide +kernel
theorem dX8_nightsOf_52 : decode cX8_nightsOf 52 = .ok (.invokestatic 102, 3) := by decide +kernel
theorem dX8_nightsOf_55 : decode cX8_nightsOf 55 = .ok (.istore 4, 2) := by decide +kernel
theorem dX8_nightsOf_57 : decode cX8_nightsOf 57 = .ok (.iload 4, 2) := by decide +kernel
theorem dX8_nightsOf_59 : decode cX8_nightsOf 59 = .ok (.aload_n 1, 1) := by decide +kernel
theorem dX8_nightsOf_60 : decode cX8_nightsOf 60 = .ok (.getfield 105, 3) := by decide +kernel
theorem dX8_nightsOf_63 : decode cX8_nightsOf 63 = .ok (.iload_n 3, 1) := by decide +kernel
theorem dX8_nightsOf_64 : decode cX8_nightsOf 64 = .ok (.iaload, 1) := by decide +kernel
theorem dX8_nightsOf_65 : decode cX8_nightsOf 65 = .ok (.if_icmp .le 11, 3) := by decide +kernel
theorem dX8_nightsOf_68 : decode cX8_nightsOf 68 = .ok (.iload 5, 2) := by decide +kernel
theorem dX8_nightsOf_70 : decode cX8_nightsOf 70 = .ok (.aload_n 1, 1) := by decide +kernel
theorem dX8_nightsOf_71 : decode cX8_nightsOf 71 = .ok (.getfield 58, 3) := by decide +kernel
theorem dX8_nightsOf_74 : decode cX8_nightsOf 74 = .ok (.idiv, 1) := by decide +kernel
theorem dX8_nightsOf_75 : decode cX8_nightsOf 75 = .ok (.ireturn, 1) := by decide +kernel
theorem dX8_nightsOf_76 : decode cX8_nightsOf 76 = .ok (.iinc 5 1, 3) := by decide +kernel
theorem dX8_nightsOf_79 : decode cX8_nightsOf 79 = .ok (.goto (-51), 3) := by decide +kernel
theorem dX8_nightsOf_82 : decode cX8_nightsOf 82 = .ok (.iconst (-1), 1) := by decide +kernel
theorem dX8_nightsOf_83 : decode cX8_nightsOf 83 = .ok (.ireturn, 1) := by decide +kernel
theorem dX8_fewestHolding_0 : decode cX8_fewestHolding 0 = .ok (.aload_n 0, 1) := by decide +kernel
theorem dX8_fewestHolding_1 : decode cX8_fewestHolding 1 = .ok (.aload_n 2, 1) := by decide +kernel
theorem dX8_fewestHolding_2 : decode cX8_fewestHolding 2 = .ok (.invokevirtual 37, 3) := by decide +kernel
theorem dX8_fewestHolding_5 : decode cX8_fewestHolding 5 = .ok (.iconst 0, 1) := by decide +kernel
theorem dX8_fewestHolding_6 : decode cX8_fewestHolding 6 = .ok (.istore_n 3, 1) := by decide +kernel
theorem dX8_fewestHolding_7 : decode cX8_fewestHolding 7 = .ok (.iload_n 3, 1) := by decide +kernel
theorem dX8_fewestHolding_8 : decode cX8_fewestHolding 8 = .ok (.aload_n 1, 1) := by decide +kernel
theorem dX8_fewestHolding_9 : decode cX8_fewestHolding 9 = .ok (.getfield 58, 3) := by decide +kernel
theorem dX8_fewestHolding_12 : decode cX8_fewestHolding 12 = .ok (.if_icmp .ge 43, 3) := by decide +kernel
theorem dX8_fewestHolding_15 : decode cX8_fewestHolding 15 = .ok (.iload_n 3, 1) := by decide +kernel
theorem dX8_fewestHolding_16 : decode cX8_fewestHolding 16 = .ok (.bipush 6, 2) := by decide +kernel
theorem dX8_fewestHolding_18 : decode cX8_fewestHolding 18 = .ok (.if_icmp .ge 37, 3) := by decide +kernel
theorem dX8_fewestHolding_21 : decode cX8_fewestHolding 21 = .ok (.aload_n 0, 1) := by decide +kernel
theorem dX8_fewestHolding_22 : decode cX8_fewestHolding 22 = .ok (.getfield 23, 3) := by decide +kernel
theorem dX8_fewestHolding_25 : decode cX8_fewestHolding 25 = .ok (.iload_n 3, 1) := by decide +kernel
theorem dX8_fewestHolding_26 : decode cX8_fewestHolding 26 = .ok (.aload_n 1, 1) := by decide +kernel
theorem dX8_fewestHolding_27 : decode cX8_fewestHolding 27 = .ok (.invokevirtual 86, 3) := by decide +kernel
theorem dX8_fewestHolding_30 : decode cX8_fewestHolding 30 = .ok (.aload_n 1, 1) := by decide +kernel
theorem dX8_fewestHolding_31 : decode cX8_fewestHolding 31 = .ok (.aload_n 0, 1) := by decide +kernel
theorem dX8_fewestHolding_32 : decode cX8_fewestHolding 32 = .ok (.getfield 17, 3) := by decide +kernel
theorem dX8_fewestHolding_35 : decode cX8_fewestHolding 35 = .ok (.iconst 0, 1) := by decide +kernel
theorem dX8_fewestHolding_36 : decode cX8_fewestHolding 36 = .ok (.aaload, 1) := by decide +kernel
theorem dX8_fewestHolding_37 : decode cX8_fewestHolding 37 = .ok (.aload_n 1, 1) := by decide +kernel
theorem dX8_fewestHolding_38 : decode cX8_fewestHolding 38 = .ok (.invokevirtual 86, 3) := by decide +kernel
theorem dX8_fewestHolding_41 : decode cX8_fewestHolding 41 = .ok (.iconst 0, 1) := by decide +kernel
theorem dX8_fewestHolding_42 : decode cX8_fewestHolding 42 = .ok (.invokevirtual 54, 3) := by decide +kernel
theorem dX8_fewestHolding_45 : decode cX8_fewestHolding 45 = .ok (.iconst (-1), 1) := by decide +kernel
theorem dX8_fewestHolding_46 : decode cX8_fewestHolding 46 = .ok (.ixor, 1) := by decide +kernel
theorem dX8_fewestHolding_47 : decode cX8_fewestHolding 47 = .ok (.iand, 1) := by decide +kernel
theorem dX8_fewestHolding_48 : decode cX8_fewestHolding 48 = .ok (.iastore, 1) := by decide +kernel
theorem dX8_fewestHolding_49 : decode cX8_fewestHolding 49 = .ok (.iinc 3 1, 3) := by decide +kernel
theorem dX8_fewestHolding_52 : decode cX8_fewestHolding 52 = .ok (.goto (-45), 3) := by decide +kernel
theorem dX8_fewestHolding_55 : decode cX8_fewestHolding 55 = .ok (.iconst (-1), 1) := by decide +kernel
theorem dX8_fewestHolding_56 : decode cX8_fewestHolding 56 = .ok (.istore_n 3, 1) := by decide +kernel
theorem dX8_fewestHolding_57 : decode cX8_fewestHolding 57 = .ok (.iconst 0, 1) := by decide +kernel
theorem dX8_fewestHolding_58 : decode cX8_fewestHolding 58 = .ok (.istore 4, 2) := by decide +kernel
theorem dX8_fewestHolding_60 : decode cX8_fewestHolding 60 = .ok (.iload 4, 2) := by decide +kernel
theorem dX8_fewestHolding_62 : decode cX8_fewestHolding 62 = .ok (.aload_n 1, 1) := by decide +kernel
theorem dX8_fewestHolding_63 : decode cX8_fewestHolding 63 = .ok (.invokevirtual 86, 3) := by decide +kernel
theorem dX8_fewestHolding_66 : decode cX8_fewestHolding 66 = .ok (.if_icmp .gt 49, 3) := by decide +kernel
theorem dX8_fewestHolding_69 : decode cX8_fewestHolding 69 = .ok (.iload 4, 2) := by decide +kernel
theorem dX8_fewestHolding_71 : decode cX8_fewestHolding 71 = .ok (.bipush 64, 2) := by decide +kernel
theorem dX8_fewestHolding_73 : decode cX8_fewestHolding 73 = .ok (.if_icmp .ge 42, 3) := by decide +kernel
theorem dX8_fewestHolding_76 : decode cX8_fewestHolding 76 = .ok (.aload_n 0, 1) := by decide +kernel
theorem dX8_fewestHolding_77 : decode cX8_fewestHolding 77 = .ok (.aload_n 1, 1) := by decide +kernel
theorem dX8_fewestHolding_78 : decode cX8_fewestHolding 78 = .ok (.iload 4, 2) := by decide +kernel
theorem dX8_fewestHolding_80 : decode cX8_fewestHolding 80 = .ok (.invokevirtual 108, 3) := by decide +kernel
theorem dX8_fewestHolding_83 : decode cX8_fewestHolding 83 = .ok (.ifCond .ne 6, 3) := by decide +kernel
theorem dX8_fewestHolding_86 : decode cX8_fewestHolding 86 = .ok (.goto 23, 3) := by decide +kernel
theorem dX8_fewestHolding_89 : decode cX8_fewestHolding 89 = .ok (.iload_n 3, 1) := by decide +kernel
theorem dX8_fewestHolding_90 : decode cX8_fewestHolding 90 = .ok (.iconst (-1), 1) := by decide +kernel
theorem dX8_fewestHolding_91 : decode cX8_fewestHolding 91 = .ok (.if_icmp .eq 15, 3) := by decide +kernel
theorem dX8_fewestHolding_94 : decode cX8_fewestHolding 94 = .ok (.iload 4, 2) := by decide +kernel
theorem dX8_fewestHolding_96 : decode cX8_fewestHolding 96 = .ok (.invokestatic 90, 3) := by decide +kernel
theorem dX8_fewestHolding_99 : decode cX8_fewestHolding 99 = .ok (.iload_n 3, 1) := by decide +kernel
theorem dX8_fewestHolding_100 : decode cX8_fewestHolding 100 = .ok (.invokestatic 90, 3) := by decide +kernel
theorem dX8_fewestHolding_103 : decode cX8_fewestHolding 103 = .ok (.if_icmp .ge 6, 3) := by decide +kernel
theorem dX8_fewestHolding_106 : decode cX8_fewestHolding 106 = .ok (.iload 4, 2) := by decide +kernel
theorem dX8_fewestHolding_108 : decode cX8_fewestHolding 108 = .ok (.istore_n 3, 1) := by decide +kernel
theorem dX8_fewestHolding_109 : decode cX8_fewestHolding 109 = .ok (.iinc 4 1, 3) := by decide +kernel
theorem dX8_fewestHolding_112 : decode cX8_fewestHolding 112 = .ok (.goto (-52), 3) := by decide +kernel
theorem dX8_fewestHolding_115 : decode cX8_fewestHolding 115 = .ok (.iload_n 3, 1) := by decide +kernel
theorem dX8_fewestHolding_116 : decode cX8_fewestHolding 116 = .ok (.ireturn, 1) := by decide +kernel
theorem dX8_holds_0 : decode cX8_holds 0 = .ok (.iconst 0, 1) := by decide +kernel
theorem dX8_holds_1 : decode cX8_holds 1 = .ok (.istore_n 3, 1) := by decide +kernel
theorem dX8_holds_2 : decode cX8_holds 2 = .ok (.iload_n 3, 1) := by decide +kernel
theorem dX8_holds_3 : decode cX8_holds 3 = .ok (.aload_n 1, 1) := by decide +kernel
theorem dX8_holds_4 : decode cX8_holds 4 = .ok (.getfield 58, 3) := by decide +kernel
theorem dX8_holds_7 : decode cX8_holds 7 = .ok (.if_icmp .ge 28, 3) := by decide +kernel
theorem dX8_holds_10 : decode cX8_holds 10 = .ok (.iload_n 3, 1) := by decide +kernel
theorem dX8_holds_11 : decode cX8_holds 11 = .ok (.bipush 6, 2) := by decide +kernel
theorem dX8_holds_13 : decode cX8_holds 13 = .ok (.if_icmp .ge 22, 3) := by decide +kernel
theorem dX8_holds_16 : decode cX8_holds 16 = .ok (.iload_n 2, 1) := by decide +kernel
theorem dX8_holds_17 : decode cX8_holds 17 = .ok (.aload_n 0, 1) := by decide +kernel
theorem dX8_holds_18 : decode cX8_holds 18 = .ok (.getfield 23, 3) := by decide +kernel
theorem dX8_holds_21 : decode cX8_holds 21 = .ok (.iload_n 3, 1) := by decide +kernel
theorem dX8_holds_22 : decode cX8_holds 22 = .ok (.iaload, 1) := by decide +kernel
theorem dX8_holds_23 : decode cX8_holds 23 = .ok (.iand, 1) := by decide +kernel
theorem dX8_holds_24 : decode cX8_holds 24 = .ok (.ifCond .ne 5, 3) := by decide +kernel
theorem dX8_holds_27 : decode cX8_holds 27 = .ok (.iconst 0, 1) := by decide +kernel
theorem dX8_holds_28 : decode cX8_holds 28 = .ok (.ireturn, 1) := by decide +kernel
theorem dX8_holds_29 : decode cX8_holds 29 = .ok (.iinc 3 1, 3) := by decide +kernel
theorem dX8_holds_32 : decode cX8_holds 32 = .ok (.goto (-30), 3) := by decide +kernel
theorem dX8_holds_35 : decode cX8_holds 35 = .ok (.iconst 1, 1) := by decide +kernel
theorem dX8_holds_36 : decode cX8_holds 36 = .ok (.ireturn, 1) := by decide +kernel
end
section
theorem dX9_init_0 : decode cX9_init 0 = .ok (.aload_n 0, 1) := by decide +kernel
theorem dX9_init_1 : decode cX9_init 1 = .ok (.invokespecial 1, 3) := by decide +kernel
theorem dX9_init_4 : decode cX9_init 4 = .ok (.aload_n 0, 1) := by decide +kernel
theorem dX9_init_5 : decode cX9_init 5 = .ok (.new 7, 3) := by decide +kernel
theorem dX9_init_8 : decode cX9_init 8 = .ok (.dup, 1) := by decide +kernel
theorem dX9_init_9 : decode cX9_init 9 = .ok (.invokespecial 9, 3) := by decide +kernel
theorem dX9_init_12 : decode cX9_init 12 = .ok (.putfield 10, 3) := by decide +kernel
theorem dX9_init_15 : decode cX9_init 15 = .ok (.aload_n 0, 1) := by decide +kernel
theorem dX9_init_16 : decode cX9_init 16 = .ok (.new 16, 3) := by decide +kernel
theorem dX9_init_19 : decode cX9_init 19 = .ok (.dup, 1) := by decide +kernel
theorem dX9_init_20 : decode cX9_init 20 = .ok (.invokespecial 18, 3) := by decide +kernel
theorem dX9_init_23 : decode cX9_init 23 = .ok (.putfield 19, 3) := by decide +kernel
theorem dX9_init_26 : decode cX9_init 26 = .ok (.aload_n 0, 1) := by decide +kernel
theorem dX9_init_27 : decode cX9_init 27 = .ok (.new 23, 3) := by decide +kernel
theorem dX9_init_30 : decode cX9_init 30 = .ok (.dup, 1) := by decide +kernel
theorem dX9_init_31 : decode cX9_init 31 = .ok (.invokespecial 25, 3) := by decide +kernel
theorem dX9_init_34 : decode cX9_init 34 = .ok (.putfield 26, 3) := by decide +kernel
theorem dX9_init_37 : decode cX9_init 37 = .ok (.aload_n 0, 1) := by decide +kernel
theorem dX9_init_38 : decode cX9_init 38 = .ok (.new 30, 3) := by decide +kernel
theorem dX9_init_41 : decode cX9_init 41 = .ok (.dup, 1) := by decide +kernel
theorem dX9_init_42 : decode cX9_init 42 = .ok (.invokespecial 32, 3) := by decide +kernel
theorem dX9_init_45 : decode cX9_init 45 = .ok (.putfield 33, 3) := by decide +kernel
theorem dX9_init_48 : decode cX9_init 48 = .ok (.aload_n 0, 1) := by decide +kernel
theorem dX9_init_49 : decode cX9_init 49 = .ok (.new 37, 3) := by decide +kernel
theorem dX9_init_52 : decode cX9_init 52 = .ok (.dup, 1) := by decide +kernel
theorem dX9_init_53 : decode cX9_init 53 = .ok (.invokespecial 39, 3) := by decide +kernel
theorem dX9_init_56 : decode cX9_init 56 = .ok (.putfield 40, 3) := by decide +kernel
theorem dX9_init_59 : decode cX9_init 59 = .ok (.aload_n 0, 1) := by decide +kernel
theorem dX9_init_60 : decode cX9_init 60 = .ok (.new 44, 3) := by decide +kernel
theorem dX9_init_63 : decode cX9_init 63 = .ok (.dup, 1) := by decide +kernel
theorem dX9_init_64 : decode cX9_init 64 = .ok (.invokespecial 46, 3) := by decide +kernel
theorem dX9_init_67 : decode cX9_init 67 = .ok (.putfield 47, 3) := by decide +kernel
theorem dX9_init_70 : decode cX9_init 70 = .ok (.aload_n 0, 1) := by decide +kernel
theorem dX9_init_71 : decode cX9_init 71 = .ok (.new 51, 3) := by decide +kernel
theorem dX9_init_74 : decode cX9_init 74 = .ok (.dup, 1) := by decide +kernel
theorem dX9_init_75 : decode cX9_init 75 = .ok (.invokespecial 53, 3) := by decide +kernel
theorem dX9_init_78 : decode cX9_init 78 = .ok (.putfield 54, 3) := by decide +kernel
theorem dX9_init_81 : decode cX9_init 81 = .ok (.aload_n 0, 1) := by decide +kernel
theorem dX9_init_82 : decode cX9_init 82 = .ok (.new 58, 3) := by decide +kernel
theorem dX9_init_85 : decode cX9_init 85 = .ok (.dup, 1) := by decide +kernel
theorem dX9_init_86 : decode cX9_init 86 = .ok (.invokespecial 60, 3) := by decide +kernel
theorem dX9_init_89 : decode cX9_init 89 = .ok (.putfield 61, 3) := by decide +kernel
theorem dX9_init_92 : decode cX9_init 92 = .ok (.aload_n 0, 1) := by decide +kernel
theorem dX9_init_93 : decode cX9_init 93 = .ok (.new 65, 3) := by decide +kernel
theorem dX9_init_96 : decode cX9_init 96 = .ok (.dup, 1) := by decide +kernel
theorem dX9_init_97 : decode cX9_init 97 = .ok (.invokespecial 67, 3) := by decide +kernel
theorem dX9_init_100 : decode cX9_init 100 = .ok (.putfield 68, 3) := by decide +kernel
theorem dX9_init_103 : decode cX9_init 103 = .ok (.return_, 1) := by decide +kernel
theorem dX9_feed_0 : decode cX9_feed 0 = .ok (.iload_n 1, 1) := by decide +kernel
theorem dX9_feed_1 : decode cX9_feed 1 = .ok (.ifCond .lt 10, 3) := by decide +kernel
theorem dX9_feed_4 : decode cX9_feed 4 = .ok (.iload_n 1, 1) := by decide +kernel
theorem dX9_feed_5 : decode cX9_feed 5 = .ok (.sipush 255, 3) := by decide +kernel
theorem dX9_feed_8 : decode cX9_feed 8 = .ok (.if_icmp .le 6, 3) := by decide +kernel
theorem dX9_feed_11 : decode cX9_feed 11 = .ok (.ldc 72, 2) := by decide +kernel
theorem dX9_feed_13 : decode cX9_feed 13 = .ok (.ireturn, 1) := by decide +kernel
theorem dX9_feed_14 : decode cX9_feed 14 = .ok (.aload_n 0, 1) := by decide +kernel
theorem dX9_feed_15 : decode cX9_feed 15 = .ok (.getfield 10, 3) := by decide +kernel
theorem dX9_feed_18 : decode cX9_feed 18 = .ok (.iload_n 1, 1) := by decide +kernel
theorem dX9_feed_19 : decode cX9_feed 19 = .ok (.invokevirtual 73, 3) := by decide +kernel
theorem dX9_feed_22 : decode cX9_feed 22 = .ok (.ifCond .ne 6, 3) := by decide +kernel
theorem dX9_feed_25 : decode cX9_feed 25 = .ok (.ldc 77, 2) := by decide +kernel
theorem dX9_feed_27 : decode cX9_feed 27 = .ok (.ireturn, 1) := by decide +kernel
theorem dX9_feed_28 : decode cX9_feed 28 = .ok (.aload_n 0, 1) := by decide +kernel
theorem dX9_feed_29 : decode cX9_feed 29 = .ok (.getfield 10, 3) := by decide +kernel
theorem dX9_feed_32 : decode cX9_feed 32 = .ok (.getfield 78, 3) := by decide +kernel
theorem dX9_feed_35 : decode cX9_feed 35 = .ok (.ireturn, 1) := by decide +kernel
theorem dX9_contract_0 : decode cX9_contract 0 = .ok (.aload_n 0, 1) := by decide +kernel
theorem dX9_contract_1 : decode cX9_contract 1 = .ok (.getfield 10, 3) := by decide +kernel
theorem dX9_contract_4 : decode cX9_contract 4 = .ok (.invokevirtual 82, 3) := by decide +kernel
theorem dX9_contract_7 : decode cX9_contract 7 = .ok (.istore_n 1, 1) := by decide +kernel
theorem dX9_contract_8 : decode cX9_contract 8 = .ok (.iload_n 1, 1) := by decide +kernel
theorem dX9_contract_9 : decode cX9_contract 9 = .ok (.ifCond .eq 8, 3) := by decide +kernel
theorem dX9_contract_12 : decode cX9_contract 12 = .ok (.bipush (-10), 2) := by decide +kernel
theorem dX9_contract_14 : decode cX9_contract 14 = .ok (.iload_n 1, 1) := by decide +kernel
theorem dX9_contract_15 : decode cX9_contract 15 = .ok (.isub, 1) := by decide +kernel
theorem dX9_contract_16 : decode cX9_contract 16 = .ok (.ireturn, 1) := by decide +kernel
theorem dX9_contract_17 : decode cX9_contract 17 = .ok (.aload_n 0, 1) := by decide +kernel
theorem dX9_contract_18 : decode cX9_contract 18 = .ok (.getfield 19, 3) := by decide +kernel
theorem dX9_contract_21 : decode cX9_contract 21 = .ok (.aload_n 0, 1) := by decide +kernel
theorem dX9_contract_22 : decode cX9_contract 22 = .ok (.getfield 10, 3) := by decide +kernel
theorem dX9_contract_25 : decode cX9_contract 25 = .ok (.getfield 86, 3) := by decide +kernel
theorem dX9_contract_28 : decode cX9_contract 28 = .ok (.invokevirtual 89, 3) := by decide +kernel
theorem dX9_contract_31 : decode cX9_contract 31 = .ok (.aload_n 0, 1) := by decide +kernel
theorem dX9_contract_32 : decode cX9_contract 32 = .ok (.getfield 26, 3) := by decide +kernel
theorem dX9_contract_35 : decode cX9_contract 35 = .ok (.aload_n 0, 1) := by decide +kernel
theorem dX9_contract_36 : decode cX9_contract 36 = .ok (.getfield 19, 3) := by decide +kernel
theorem dX9_contract_39 : decode cX9_contract 39 = .ok (.invokevirtual 93, 3) := by decide +kernel
theorem dX9_contract_42 : decode cX9_contract 42 = .ok (.aload_n 0, 1) := by decide +kernel
theorem dX9_contract_43 : decode cX9_contract 43 = .ok (.getfield 33, 3) := by decide +kernel
theorem dX9_contract_46 : decode cX9_contract 46 = .ok (.invokevirtual 96, 3) := by decide +kernel
theorem dX9_contract_49 : decode cX9_contract 49 = .ok (.aload_n 0, 1) := by decide +kernel
theorem dX9_contract_50 : decode cX9_contract 50 = .ok (.getfield 40, 3) := by decide +kernel
theorem dX9_contract_53 : decode cX9_contract 53 = .ok (.invokevirtual 99, 3) := by decide +kernel
theorem dX9_contract_56 : decode cX9_contract 56 = .ok (.aload_n 0, 1) := by decide +kernel
theorem dX9_contract_57 : decode cX9_contract 57 = .ok (.getfield 61, 3) := by decide +kernel
theorem dX9_contract_60 : decode cX9_contract 60 = .ok (.invokevirtual 100, 3) := by decide +kernel
theorem dX9_contract_63 : decode cX9_contract 63 = .ok (.aload_n 0, 1) := by decide +kernel
theorem dX9_contract_64 : decode cX9_contract 64 = .ok (.getfield 68, 3) := by decide +kernel
theorem dX9_contract_67 : decode cX9_contract 67 = .ok (.invokevirtual 101, 3) := by decide +kernel
theorem dX9_contract_70 : decode cX9_contract 70 = .ok (.aload_n 0, 1) := by decide +kernel
theorem dX9_contract_71 : decode cX9_contract 71 = .ok (.getfield 19, 3) := by decide +kernel
theorem dX9_contract_74 : decode cX9_contract 74 = .ok (.getfield 102, 3) := by decide +kernel
theorem dX9_contract_77 : decode cX9_contract 77 = .ok (.ireturn, 1) := by decide +kernel
theorem dX9_fault_0 : decode cX9_fault 0 = .ok (.aload_n 0, 1) := by decide +kernel
theorem dX9_fault_1 : decode cX9_fault 1 = .ok (.getfield 10, 3) := by decide +kernel
theorem dX9_fault_4 : decode cX9_fault 4 = .ok (.getfield 105, 3) := by decide +kernel
theorem dX9_fault_7 : decode cX9_fault 7 = .ok (.ireturn, 1) := by decide +kernel
theorem dX9_told_0 : decode cX9_told 0 = .ok (.iload_n 1, 1) := by decide +kernel
theorem dX9_told_1 : decode cX9_told 1 = .ok (.tableswitch 219 0 16 #[83, 91, 99, 107, 115, 123, 131, 139, 147, 155, 163, 171, 179, 187, 195, 203, 211], 83) := by decide +kernel
theorem dX9_told_84 : decode cX9_told 84 = .ok (.aload_n 0, 1) := by decide +kernel
theorem dX9_told_85 : decode cX9_told 85 = .ok (.getfield 19, 3) := by decide +kernel
theorem dX9_told_88 : decode cX9_told 88 = .ok (.getfield 108, 3) := by decide +kernel
theorem dX9_told_91 : decode cX9_told 91 = .ok (.ireturn, 1) := by decide +kernel
theorem dX9_told_92 : decode cX9_told 92 = .ok (.aload_n 0, 1) := by decide +kernel
theorem dX9_told_93 : decode cX9_told 93 = .ok (.getfield 19, 3) := by decide +kernel
theorem dX9_told_96 : decode cX9_told 96 = .ok (.getfield 111, 3) := by decide +kernel
theorem dX9_told_99 : decode cX9_told 99 = .ok (.ireturn, 1) := by decide +kernel
theorem dX9_told_100 : decode cX9_told 100 = .ok (.aload_n 0, 1) := by decide +kernel
theorem dX9_told_101 : decode cX9_told 101 = .ok (.getfield 19, 3) := by decide +kernel
theorem dX9_told_104 : decode cX9_told 104 = .ok (.getfield 114, 3) := by decide +kernel
theorem dX9_told_107 : decode cX9_told 107 = .ok (.ireturn, 1) := by decide +kernel
theorem dX9_told_108 : decode cX9_told 108 = .ok (.aload_n 0, 1) := by decide +kernel
theorem dX9_told_109 : decode cX9_told 109 = .ok (.getfield 19, 3) := by decide +kernel
theorem dX9_told_112 : decode cX9_told 112 = .ok (.getfield 117, 3) := by decide +kernel
theorem dX9_told_115 : decode cX9_told 115 = .ok (.ireturn, 1) := by decide +kernel
theorem dX9_told_116 : decode cX9_told 116 = .ok (.aload_n 0, 1) := by decide +kernel
theorem dX9_told_117 : decode cX9_told 117 = .ok (.getfield 19, 3) := by decide +kernel
theorem dX9_told_120 : decode cX9_told 120 = .ok (.getfield 102, 3) := by decide +kernel
theorem dX9_told_123 : decode cX9_told 123 = .ok (.ireturn, 1) := by decide +kernel
theorem dX9_told_124 : decode cX9_told 124 = .ok (.aload_n 0, 1) := by decide +kernel
theorem dX9_told_125 : decode cX9_told 125 = .ok (.getfield 19, 3) := by decide +kernel
theorem dX9_told_128 : decode cX9_told 128 = .ok (.getfield 120, 3) := by decide +kernel
theorem dX9_told_131 : decode cX9_told 131 = .ok (.ireturn, 1) := by decide +kernel
theorem dX9_told_132 : decode cX9_told 132 = .ok (.aload_n 0, 1) := by decide +kernel
theorem dX9_told_133 : decode cX9_told 133 = .ok (.getfield 10, 3) := by decide +kernel
theorem dX9_told_136 : decode cX9_told 136 = .ok (.getfield 78, 3) := by decide +kernel
theorem dX9_told_139 : decode cX9_told 139 = .ok (.ireturn, 1) := by decide +kernel
theorem dX9_told_140 : decode cX9_told 140 = .ok (.aload_n 0, 1) := by decide +kernel
theorem dX9_told_141 : decode cX9_told 141 = .ok (.getfield 26, 3) := by decide +kernel
theorem dX9_told_144 : decode cX9_told 144 = .ok (.getfield 123, 3) := by decide +kernel
theorem dX9_told_147 : decode cX9_told 147 = .ok (.ireturn, 1) := by decide +kernel
theorem dX9_told_148 : decode cX9_told 148 = .ok (.aload_n 0, 1) := by decide +kernel
theorem dX9_told_149 : decode cX9_told 149 = .ok (.getfield 26, 3) := by decide +kernel
theorem dX9_told_152 : decode cX9_told 152 = .ok (.getfield 126, 3) := by decide +kernel
theorem dX9_told_155 : decode cX9_told 155 = .ok (.ireturn, 1) := by decide +kernel
theorem dX9_told_156 : decode cX9_told 156 = .ok (.aload_n 0, 1) := by decide +kernel
theorem dX9_told_157 : decode cX9_told 157 = .ok (.getfield 26, 3) := by decide +kernel
theorem dX9_told_160 : decode cX9_told 160 = .ok (.getfield 127, 3) := by decide +kernel
theorem dX9_told_163 : decode cX9_told 163 = .ok (.ireturn, 1) := by decide +kernel
theorem dX9_told_164 : decode cX9_told 164 = .ok (.aload_n 0, 1) := by decide +kernel
theorem dX9_told_165 : decode cX9_told 165 = .ok (.getfield 26, 3) := by decide +kernel
theorem dX9_told_168 : decode cX9_told 168 = .ok (.getfield 130, 3) := by decide +kernel
theorem dX9_told_171 : decode cX9_told 171 = .ok (.ireturn, 1) := by decide +kernel
theorem dX9_told_172 : decode cX9_told 172 = .ok (.aload_n 0, 1) := by decide +kernel
theorem dX9_told_173 : decode cX9_told 173 = .ok (.getfield 26, 3) := by decide +kernel
theorem dX9_told_176 : decode cX9_told 176 = .ok (.getfield 133, 3) := by decide +kernel
theorem dX9_told_179 : decode cX9_told 179 = .ok (.ireturn, 1) := by decide +kernel
theorem dX9_told_180 : decode cX9_told 180 = .ok (.aload_n 0, 1) := by decide +kernel
theorem dX9_told_181 : decode cX9_told 181 = .ok (.getfield 26, 3) := by decide +kernel
theorem dX9_told_184 : decode cX9_told 184 = .ok (.getfield 136, 3) := by decide +kernel
theorem dX9_told_187 : decode cX9_told 187 = .ok (.ireturn, 1) := by decide +kernel
theorem dX9_told_188 : decode cX9_told 188 = .ok (.aload_n 0, 1) := by decide +kernel
theorem dX9_told_189 : decode cX9_told 189 = .ok (.getfield 26, 3) := by decide +kernel
theorem dX9_told_192 : decode cX9_told 192 = .ok (.getfield 139, 3) := by decide +kernel
theorem dX9_told_195 : decode cX9_told 195 = .ok (.ireturn, 1) := by decide +kernel
theorem dX9_told_196 : decode cX9_told 196 = .ok (.aload_n 0, 1) := by decide +kernel
theorem dX9_told_197 : decode cX9_told 197 = .ok (.getfield 61, 3) := by decide +kernel
theorem dX9_told_200 : decode cX9_told 200 = .ok (.getfield 142, 3) := by decide +kernel
theorem dX9_told_203 : decode cX9_told 203 = .ok (.ireturn, 1) := by decide +kernel
theorem dX9_told_204 : decode cX9_told 204 = .ok (.aload_n 0, 1) := by decide +kernel
theorem dX9_told_205 : decode cX9_told 205 = .ok (.getfield 68, 3) := by decide +kernel
theorem dX9_told_208 : decode cX9_told 208 = .ok (.getfield 145, 3) := by decide +kernel
theorem dX9_told_211 : decode cX9_told 211 = .ok (.ireturn, 1) := by decide +kernel
theorem dX9_told_212 : decode cX9_told 212 = .ok (.aload_n 0, 1) := by decide +kernel
theorem dX9_told_213 : decode cX9_told 213 = .ok (.getfield 33, 3) := by decide +kernel
theorem dX9_told_216 : decode cX9_told 216 = .ok (.getfield 146, 3) := by decide +kernel
theorem dX9_told_219 : decode cX9_told 219 = .ok (.ireturn, 1) := by decide +kernel
theorem dX9_told_220 : decode cX9_told 220 = .ok (.ldc 72, 2) := by decide +kernel
theorem dX9_told_222 : decode cX9_told 222 = .ok (.ireturn, 1) := by decide +kernel
theorem dX9_watcher_0 : decode cX9_watcher 0 = .ok (.aload_n 0, 1) := by decide +kernel
theorem dX9_watcher_1 : decode cX9_watcher 1 = .ok (.getfield 19, 3) := by decide +kernel
theorem dX9_watcher_4 : decode cX9_watcher 4 = .ok (.iload_n 1, 1) := by decide +kernel
theorem dX9_watcher_5 : decode cX9_watcher 5 = .ok (.invokevirtual 147, 3) := by decide +kernel
theorem dX9_watcher_8 : decode cX9_watcher 8 = .ok (.ifCond .ne 6, 3) := by decide +kernel
theorem dX9_watcher_11 : decode cX9_watcher 11 = .ok (.ldc 150, 2) := by decide +kernel
theorem dX9_watcher_13 : decode cX9_watcher 13 = .ok (.ireturn, 1) := by decide +kernel
theorem dX9_watcher_14 : decode cX9_watcher 14 = .ok (.iload_n 2, 1) := by decide +kernel
theorem dX9_watcher_15 : decode cX9_watcher 15 = .ok (.tableswitch 83 0 4 #[33, 43, 53, 63, 73], 33) := by decide +kernel
theorem dX9_watcher_48 : decode cX9_watcher 48 = .ok (.aload_n 0, 1) := by decide +kernel
theorem dX9_watcher_49 : decode cX9_watcher 49 = .ok (.getfield 26, 3) := by decide +kernel
theorem dX9_watcher_52 : decode cX9_watcher 52 = .ok (.getfield 151, 3) := by decide +kernel
theorem dX9_watcher_55 : decode cX9_watcher 55 = .ok (.iload_n 1, 1) := by decide +kernel
theorem dX9_watcher_56 : decode cX9_watcher 56 = .ok (.iaload, 1) := by decide +kernel
theorem dX9_watcher_57 : decode cX9_watcher 57 = .ok (.ireturn, 1) := by decide +kernel
theorem dX9_watcher_58 : decode cX9_watcher 58 = .ok (.aload_n 0, 1) := by decide +kernel
theorem dX9_watcher_59 : decode cX9_watcher 59 = .ok (.getfield 19, 3) := by decide +kernel
theorem dX9_watcher_62 : decode cX9_watcher 62 = .ok (.getfield 155, 3) := by decide +kernel
theorem dX9_watcher_65 : decode cX9_watcher 65 = .ok (.iload_n 1, 1) := by decide +kernel
theorem dX9_watcher_66 : decode cX9_watcher 66 = .ok (.iaload, 1) := by decide +kernel
theorem dX9_watcher_67 : decode cX9_watcher 67 = .ok (.ireturn, 1) := by decide +kernel
theorem dX9_watcher_68 : decode cX9_watcher 68 = .ok (.aload_n 0, 1) := by decide +kernel
theorem dX9_watcher_69 : decode cX9_watcher 69 = .ok (.getfield 19, 3) := by decide +kernel
theorem dX9_watcher_72 : decode cX9_watcher 72 = .ok (.getfield 158, 3) := by decide +kernel
theorem dX9_watcher_75 : decode cX9_watcher 75 = .ok (.iload_n 1, 1) := by decide +kernel
theorem dX9_watcher_76 : decode cX9_watcher 76 = .ok (.iaload, 1) := by decide +kernel
theorem dX9_watcher_77 : decode cX9_watcher 77 = .ok (.ireturn, 1) := by decide +kernel
theorem dX9_watcher_78 : decode cX9_watcher 78 = .ok (.aload_n 0, 1) := by decide +kernel
theorem dX9_watcher_79 : decode cX9_watcher 79 = .ok (.getfield 19, 3) := by decide +kernel
theorem dX9_watcher_82 : decode cX9_watcher 82 = .ok (.getfield 161, 3) := by decide +kernel
theorem dX9_watcher_85 : decode cX9_watcher 85 = .ok (.iload_n 1, 1) := by decide +kernel
theorem dX9_watcher_86 : decode cX9_watcher 86 = .ok (.iaload, 1) := by decide +kernel
theorem dX9_watcher_87 : decode cX9_watcher 87 = .ok (.ireturn, 1) := by decide +kernel
theorem dX9_watcher_88 : decode cX9_watcher 88 = .ok (.aload_n 0, 1) := by decide +kernel
theorem dX9_watcher_89 : decode cX9_watcher 89 = .ok (.getfield 26, 3) := by decide +kernel
theorem dX9_watcher_92 : decode cX9_watcher 92 = .ok (.getfield 164, 3) := by decide +kernel
theorem dX9_watcher_95 : decode cX9_watcher 95 = .ok (.iload_n 1, 1) := by decide +kernel
theorem dX9_watcher_96 : decode cX9_watcher 96 = .ok (.iaload, 1) := by decide +kernel
theorem dX9_watcher_97 : decode cX9_watcher 97 = .ok (.ireturn, 1) := by decide +kernel
theorem dX9_watcher_98 : decode cX9_watcher 98 = .ok (.ldc 72, 2) := by decide +kernel
theorem dX9_watcher_100 : decode cX9_watcher 100 = .ok (.ireturn, 1) := by decide +kernel
theorem dX9_sleeper_0 : decode cX9_sleeper 0 = .ok (.aload_n 0, 1) := by decide +kernel
theorem dX9_sleeper_1 : decode cX9_sleeper 1 = .ok (.getfield 19, 3) := by decide +kernel
theorem dX9_sleeper_4 : decode cX9_sleeper 4 = .ok (.iload_n 1, 1) := by decide +kernel
theorem dX9_sleeper_5 : decode cX9_sleeper 5 = .ok (.invokevirtual 167, 3) := by decide +kernel
theorem dX9_sleeper_8 : decode cX9_sleeper 8 = .ok (.ifCond .ne 6, 3) := by decide +kernel
theorem dX9_sleeper_11 : decode cX9_sleeper 11 = .ok (.ldc 150, 2) := by decide +kernel
theorem dX9_sleeper_13 : decode cX9_sleeper 13 = .ok (.ireturn, 1) := by decide +kernel
theorem dX9_sleeper_14 : decode cX9_sleeper 14 = .ok (.aload_n 0, 1) := by decide +kernel
theorem dX9_sleeper_15 : decode cX9_sleeper 15 = .ok (.getfield 19, 3) := by decide +kernel
theorem dX9_sleeper_18 : decode cX9_sleeper 18 = .ok (.getfield 170, 3) := by decide +kernel
theorem dX9_sleeper_21 : decode cX9_sleeper 21 = .ok (.iload_n 1, 1) := by decide +kernel
theorem dX9_sleeper_22 : decode cX9_sleeper 22 = .ok (.iaload, 1) := by decide +kernel
theorem dX9_sleeper_23 : decode cX9_sleeper 23 = .ok (.ireturn, 1) := by decide +kernel
theorem dX9_hour_0 : decode cX9_hour 0 = .ok (.aload_n 0, 1) := by decide +kernel
theorem dX9_hour_1 : decode cX9_hour 1 = .ok (.getfield 19, 3) := by decide +kernel
theorem dX9_hour_4 : decode cX9_hour 4 = .ok (.iload_n 1, 1) := by decide +kernel
theorem dX9_hour_5 : decode cX9_hour 5 = .ok (.invokevirtual 173, 3) := by decide +kernel
theorem dX9_hour_8 : decode cX9_hour 8 = .ok (.ifCond .ne 6, 3) := by decide +kernel
theorem dX9_hour_11 : decode cX9_hour 11 = .ok (.ldc 150, 2) := by decide +kernel
theorem dX9_hour_13 : decode cX9_hour 13 = .ok (.ireturn, 1) := by decide +kernel
theorem dX9_hour_14 : decode cX9_hour 14 = .ok (.aload_n 0, 1) := by decide +kernel
theorem dX9_hour_15 : decode cX9_hour 15 = .ok (.getfield 19, 3) := by decide +kernel
theorem dX9_hour_18 : decode cX9_hour 18 = .ok (.invokevirtual 176, 3) := by decide +kernel
theorem dX9_hour_21 : decode cX9_hour 21 = .ok (.ifCond .ne 6, 3) := by decide +kernel
theorem dX9_hour_24 : decode cX9_hour 24 = .ok (.ldc 180, 2) := by decide +kernel
theorem dX9_hour_26 : decode cX9_hour 26 = .ok (.ireturn, 1) := by decide +kernel
theorem dX9_hour_27 : decode cX9_hour 27 = .ok (.aload_n 0, 1) := by decide +kernel
theorem dX9_hour_28 : decode cX9_hour 28 = .ok (.getfield 26, 3) := by decide +kernel
theorem dX9_hour_31 : decode cX9_hour 31 = .ok (.getfield 123, 3) := by decide +kernel
theorem dX9_hour_34 : decode cX9_hour 34 = .ok (.ldc 181, 2) := by decide +kernel
theorem dX9_hour_36 : decode cX9_hour 36 = .ok (.if_icmp .le 6, 3) := by decide +kernel
theorem dX9_hour_39 : decode cX9_hour 39 = .ok (.ldc 77, 2) := by decide +kernel
theorem dX9_hour_41 : decode cX9_hour 41 = .ok (.ireturn, 1) := by decide +kernel
theorem dX9_hour_42 : decode cX9_hour 42 = .ok (.aload_n 0, 1) := by decide +kernel
theorem dX9_hour_43 : decode cX9_hour 43 = .ok (.getfield 33, 3) := by decide +kernel
theorem dX9_hour_46 : decode cX9_hour 46 = .ok (.aload_n 0, 1) := by decide +kernel
theorem dX9_hour_47 : decode cX9_hour 47 = .ok (.getfield 26, 3) := by decide +kernel
theorem dX9_hour_50 : decode cX9_hour 50 = .ok (.invokevirtual 182, 3) := by decide +kernel
theorem dX9_hour_53 : decode cX9_hour 53 = .ok (.aload_n 0, 1) := by decide +kernel
theorem dX9_hour_54 : decode cX9_hour 54 = .ok (.getfield 26, 3) := by decide +kernel
theorem dX9_hour_57 : decode cX9_hour 57 = .ok (.aload_n 0, 1) := by decide +kernel
theorem dX9_hour_58 : decode cX9_hour 58 = .ok (.getfield 19, 3) := by decide +kernel
theorem dX9_hour_61 : decode cX9_hour 61 = .ok (.iload_n 1, 1) := by decide +kernel
theorem dX9_hour_62 : decode cX9_hour 62 = .ok (.iload_n 2, 1) := by decide +kernel
theorem dX9_hour_63 : decode cX9_hour 63 = .ok (.invokevirtual 186, 3) := by decide +kernel
theorem dX9_hour_66 : decode cX9_hour 66 = .ok (.aload_n 0, 1) := by decide +kernel
theorem dX9_hour_67 : decode cX9_hour 67 = .ok (.getfield 26, 3) := by decide +kernel
theorem dX9_hour_70 : decode cX9_hour 70 = .ok (.getfield 130, 3) := by decide +kernel
theorem dX9_hour_73 : decode cX9_hour 73 = .ok (.ireturn, 1) := by decide +kernel
theorem dX9_coffee_0 : decode cX9_coffee 0 = .ok (.aload_n 0, 1) := by decide +kernel
theorem dX9_coffee_1 : decode cX9_coffee 1 = .ok (.getfield 19, 3) := by decide +kernel
theorem dX9_coffee_4 : decode cX9_coffee 4 = .ok (.iload_n 1, 1) := by decide +kernel
theorem dX9_coffee_5 : decode cX9_coffee 5 = .ok (.invokevirtual 147, 3) := by decide +kernel
theorem dX9_coffee_8 : decode cX9_coffee 8 = .ok (.ifCond .ne 6, 3) := by decide +kernel
theorem dX9_coffee_11 : decode cX9_coffee 11 = .ok (.ldc 150, 2) := by decide +kernel
theorem dX9_coffee_13 : decode cX9_coffee 13 = .ok (.ireturn, 1) := by decide +kernel
theorem dX9_coffee_14 : decode cX9_coffee 14 = .ok (.aload_n 0, 1) := by decide +kernel
theorem dX9_coffee_15 : decode cX9_coffee 15 = .ok (.getfield 26, 3) := by decide +kernel
theorem dX9_coffee_18 : decode cX9_coffee 18 = .ok (.getfield 139, 3) := by decide +kernel
theorem dX9_coffee_21 : decode cX9_coffee 21 = .ok (.iload_n 1, 1) := by decide +kernel
theorem dX9_coffee_22 : decode cX9_coffee 22 = .ok (.ishr, 1) := by decide +kernel
theorem dX9_coffee_23 : decode cX9_coffee 23 = .ok (.iconst 1, 1) := by decide +kernel
theorem dX9_coffee_24 : decode cX9_coffee 24 = .ok (.iand, 1) := by decide +kernel
theorem dX9_coffee_25 : decode cX9_coffee 25 = .ok (.ifCond .eq 6, 3) := by decide +kernel
theorem dX9_coffee_28 : decode cX9_coffee 28 = .ok (.ldc 180, 2) := by decide +kernel
theorem dX9_coffee_30 : decode cX9_coffee 30 = .ok (.ireturn, 1) := by decide +kernel
theorem dX9_coffee_31 : decode cX9_coffee 31 = .ok (.aload_n 0, 1) := by decide +kernel
theorem dX9_coffee_32 : decode cX9_coffee 32 = .ok (.getfield 33, 3) := by decide +kernel
theorem dX9_coffee_35 : decode cX9_coffee 35 = .ok (.aload_n 0, 1) := by decide +kernel
theorem dX9_coffee_36 : decode cX9_coffee 36 = .ok (.getfield 26, 3) := by decide +kernel
theorem dX9_coffee_39 : decode cX9_coffee 39 = .ok (.invokevirtual 182, 3) := by decide +kernel
theorem dX9_coffee_42 : decode cX9_coffee 42 = .ok (.aload_n 0, 1) := by decide +kernel
theorem dX9_coffee_43 : decode cX9_coffee 43 = .ok (.getfield 26, 3) := by decide +kernel
theorem dX9_coffee_46 : decode cX9_coffee 46 = .ok (.dup, 1) := by decide +kernel
theorem dX9_coffee_47 : decode cX9_coffee 47 = .ok (.getfield 139, 3) := by decide +kernel
theorem dX9_coffee_50 : decode cX9_coffee 50 = .ok (.iconst 1, 1) := by decide +kernel
theorem dX9_coffee_51 : decode cX9_coffee 51 = .ok (.iload_n 1, 1) := by decide +kernel
theorem dX9_coffee_52 : decode cX9_coffee 52 = .ok (.ishl, 1) := by decide +kernel
theorem dX9_coffee_53 : decode cX9_coffee 53 = .ok (.ior, 1) := by decide +kernel
theorem dX9_coffee_54 : decode cX9_coffee 54 = .ok (.putfield 139, 3) := by decide +kernel
theorem dX9_coffee_57 : decode cX9_coffee 57 = .ok (.aload_n 0, 1) := by decide +kernel
theorem dX9_coffee_58 : decode cX9_coffee 58 = .ok (.getfield 26, 3) := by decide +kernel
theorem dX9_coffee_61 : decode cX9_coffee 61 = .ok (.getfield 151, 3) := by decide +kernel
theorem dX9_coffee_64 : decode cX9_coffee 64 = .ok (.iload_n 1, 1) := by decide +kernel
theorem dX9_coffee_65 : decode cX9_coffee 65 = .ok (.aload_n 0, 1) := by decide +kernel
theorem dX9_coffee_66 : decode cX9_coffee 66 = .ok (.getfield 26, 3) := by decide +kernel
theorem dX9_coffee_69 : decode cX9_coffee 69 = .ok (.getfield 151, 3) := by decide +kernel
theorem dX9_coffee_72 : decode cX9_coffee 72 = .ok (.iload_n 1, 1) := by decide +kernel
theorem dX9_coffee_73 : decode cX9_coffee 73 = .ok (.iaload, 1) := by decide +kernel
theorem dX9_coffee_74 : decode cX9_coffee 74 = .ok (.invokestatic 190, 3) := by decide +kernel
theorem dX9_coffee_77 : decode cX9_coffee 77 = .ok (.iastore, 1) := by decide +kernel
theorem dX9_coffee_78 : decode cX9_coffee 78 = .ok (.aload_n 0, 1) := by decide +kernel
theorem dX9_coffee_79 : decode cX9_coffee 79 = .ok (.getfield 26, 3) := by decide +kernel
theorem dX9_coffee_82 : decode cX9_coffee 82 = .ok (.getfield 151, 3) := by decide +kernel
theorem dX9_coffee_85 : decode cX9_coffee 85 = .ok (.iload_n 1, 1) := by decide +kernel
theorem dX9_coffee_86 : decode cX9_coffee 86 = .ok (.iaload, 1) := by decide +kernel
theorem dX9_coffee_87 : decode cX9_coffee 87 = .ok (.ireturn, 1) := by decide +kernel
theorem dX9_rest_0 : decode cX9_rest 0 = .ok (.aload_n 0, 1) := by decide +kernel
theorem dX9_rest_1 : decode cX9_rest 1 = .ok (.iload_n 1, 1) := by decide +kernel
theorem dX9_rest_2 : decode cX9_rest 2 = .ok (.invokevirtual 194, 3) := by decide +kernel
theorem dX9_rest_5 : decode cX9_rest 5 = .ok (.istore_n 2, 1) := by decide +kernel
theorem dX9_rest_6 : decode cX9_rest 6 = .ok (.iload_n 2, 1) := by decide +kernel
theorem dX9_rest_7 : decode cX9_rest 7 = .ok (.iconst (-1), 1) := by decide +kernel
theorem dX9_rest_8 : decode cX9_rest 8 = .ok (.if_icmp .eq 5, 3) := by decide +kernel
theorem dX9_rest_11 : decode cX9_rest 11 = .ok (.iload_n 2, 1) := by decide +kernel
theorem dX9_rest_12 : decode cX9_rest 12 = .ok (.ireturn, 1) := by decide +kernel
theorem dX9_rest_13 : decode cX9_rest 13 = .ok (.aload_n 0, 1) := by decide +kernel
theorem dX9_rest_14 : decode cX9_rest 14 = .ok (.getfield 33, 3) := by decide +kernel
theorem dX9_rest_17 : decode cX9_rest 17 = .ok (.aload_n 0, 1) := by decide +kernel
theorem dX9_rest_18 : decode cX9_rest 18 = .ok (.getfield 26, 3) := by decide +kernel
theorem dX9_rest_21 : decode cX9_rest 21 = .ok (.invokevirtual 182, 3) := by decide +kernel
theorem dX9_rest_24 : decode cX9_rest 24 = .ok (.iconst 0, 1) := by decide +kernel
theorem dX9_rest_25 : decode cX9_rest 25 = .ok (.istore_n 3, 1) := by decide +kernel
theorem dX9_rest_26 : decode cX9_rest 26 = .ok (.iload_n 3, 1) := by decide +kernel
theorem dX9_rest_27 : decode cX9_rest 27 = .ok (.iload_n 1, 1) := by decide +kernel
theorem dX9_rest_28 : decode cX9_rest 28 = .ok (.if_icmp .ge 26, 3) := by decide +kernel
theorem dX9_rest_31 : decode cX9_rest 31 = .ok (.iload_n 3, 1) := by decide +kernel
theorem dX9_rest_32 : decode cX9_rest 32 = .ok (.bipush 60, 2) := by decide +kernel
theorem dX9_rest_34 : decode cX9_rest 34 = .ok (.if_icmp .ge 20, 3) := by decide +kernel
theorem dX9_rest_37 : decode cX9_rest 37 = .ok (.aload_n 0, 1) := by decide +kernel
theorem dX9_rest_38 : decode cX9_rest 38 = .ok (.getfield 26, 3) := by decide +kernel
theorem dX9_rest_41 : decode cX9_rest 41 = .ok (.aload_n 0, 1) := by decide +kernel
theorem dX9_rest_42 : decode cX9_rest 42 = .ok (.getfield 19, 3) := by decide +kernel
theorem dX9_rest_45 : decode cX9_rest 45 = .ok (.invokevirtual 197, 3) := by decide +kernel
theorem dX9_rest_48 : decode cX9_rest 48 = .ok (.iinc 3 1, 3) := by decide +kernel
theorem dX9_rest_51 : decode cX9_rest 51 = .ok (.goto (-25), 3) := by decide +kernel
theorem dX9_rest_54 : decode cX9_rest 54 = .ok (.aload_n 0, 1) := by decide +kernel
theorem dX9_rest_55 : decode cX9_rest 55 = .ok (.getfield 26, 3) := by decide +kernel
theorem dX9_rest_58 : decode cX9_rest 58 = .ok (.getfield 123, 3) := by decide +kernel
theorem dX9_rest_61 : decode cX9_rest 61 = .ok (.ireturn, 1) := by decide +kernel
theorem dX9_drift_0 : decode cX9_drift 0 = .ok (.aload_n 0, 1) := by decide +kernel
theorem dX9_drift_1 : decode cX9_drift 1 = .ok (.iload_n 1, 1) := by decide +kernel
theorem dX9_drift_2 : decode cX9_drift 2 = .ok (.invokevirtual 194, 3) := by decide +kernel
theorem dX9_drift_5 : decode cX9_drift 5 = .ok (.istore_n 2, 1) := by decide +kernel
theorem dX9_drift_6 : decode cX9_drift 6 = .ok (.iload_n 2, 1) := by decide +kernel
theorem dX9_drift_7 : decode cX9_drift 7 = .ok (.iconst (-1), 1) := by decide +kernel
theorem dX9_drift_8 : decode cX9_drift 8 = .ok (.if_icmp .eq 5, 3) := by decide +kernel
theorem dX9_drift_11 : decode cX9_drift 11 = .ok (.iload_n 2, 1) := by decide +kernel
theorem dX9_drift_12 : decode cX9_drift 12 = .ok (.ireturn, 1) := by decide +kernel
theorem dX9_drift_13 : decode cX9_drift 13 = .ok (.aload_n 0, 1) := by decide +kernel
theorem dX9_drift_14 : decode cX9_drift 14 = .ok (.getfield 33, 3) := by decide +kernel
theorem dX9_drift_17 : decode cX9_drift 17 = .ok (.aload_n 0, 1) := by decide +kernel
theorem dX9_drift_18 : decode cX9_drift 18 = .ok (.getfield 26, 3) := by decide +kernel
theorem dX9_drift_21 : decode cX9_drift 21 = .ok (.invokevirtual 182, 3) := by decide +kernel
theorem dX9_drift_24 : decode cX9_drift 24 = .ok (.iconst 0, 1) := by decide +kernel
theorem dX9_drift_25 : decode cX9_drift 25 = .ok (.istore_n 3, 1) := by decide +kernel
theorem dX9_drift_26 : decode cX9_drift 26 = .ok (.iload_n 3, 1) := by decide +kernel
theorem dX9_drift_27 : decode cX9_drift 27 = .ok (.iload_n 1, 1) := by decide +kernel
theorem dX9_drift_28 : decode cX9_drift 28 = .ok (.if_icmp .ge 66, 3) := by decide +kernel
theorem dX9_drift_31 : decode cX9_drift 31 = .ok (.iload_n 3, 1) := by decide +kernel
theorem dX9_drift_32 : decode cX9_drift 32 = .ok (.bipush 60, 2) := by decide +kernel
theorem dX9_drift_34 : decode cX9_drift 34 = .ok (.if_icmp .ge 60, 3) := by decide +kernel
theorem dX9_drift_37 : decode cX9_drift 37 = .ok (.aload_n 0, 1) := by decide +kernel
theorem dX9_drift_38 : decode cX9_drift 38 = .ok (.getfield 47, 3) := by decide +kernel
theorem dX9_drift_41 : decode cX9_drift 41 = .ok (.iconst 1, 1) := by decide +kernel
theorem dX9_drift_42 : decode cX9_drift 42 = .ok (.aload_n 0, 1) := by decide +kernel
theorem dX9_drift_43 : decode cX9_drift 43 = .ok (.getfield 19, 3) := by decide +kernel
theorem dX9_drift_46 : decode cX9_drift 46 = .ok (.getfield 102, 3) := by decide +kernel
theorem dX9_drift_49 : decode cX9_drift 49 = .ok (.ishl, 1) := by decide +kernel
theorem dX9_drift_50 : decode cX9_drift 50 = .ok (.invokevirtual 200, 3) := by decide +kernel
theorem dX9_drift_53 : decode cX9_drift 53 = .ok (.istore 4, 2) := by decide +kernel
theorem dX9_drift_55 : decode cX9_drift 55 = .ok (.aload_n 0, 1) := by decide +kernel
theorem dX9_drift_56 : decode cX9_drift 56 = .ok (.getfield 47, 3) := by decide +kernel
theorem dX9_drift_59 : decode cX9_drift 59 = .ok (.iconst 3, 1) := by decide +kernel
theorem dX9_drift_60 : decode cX9_drift 60 = .ok (.invokevirtual 200, 3) := by decide +kernel
theorem dX9_drift_63 : decode cX9_drift 63 = .ok (.ifCond .ne 7, 3) := by decide +kernel
theorem dX9_drift_66 : decode cX9_drift 66 = .ok (.iconst 1, 1) := by decide +kernel
theorem dX9_drift_67 : decode cX9_drift 67 = .ok (.goto 4, 3) := by decide +kernel
theorem dX9_drift_70 : decode cX9_drift 70 = .ok (.iconst 0, 1) := by decide +kernel
theorem dX9_drift_71 : decode cX9_drift 71 = .ok (.istore 5, 2) := by decide +kernel
theorem dX9_drift_73 : decode cX9_drift 73 = .ok (.aload_n 0, 1) := by decide +kernel
theorem dX9_drift_74 : decode cX9_drift 74 = .ok (.getfield 26, 3) := by decide +kernel
theorem dX9_drift_77 : decode cX9_drift 77 = .ok (.aload_n 0, 1) := by decide +kernel
theorem dX9_drift_78 : decode cX9_drift 78 = .ok (.getfield 19, 3) := by decide +kernel
theorem dX9_drift_81 : decode cX9_drift 81 = .ok (.iload 4, 2) := by decide +kernel
theorem dX9_drift_83 : decode cX9_drift 83 = .ok (.iload 5, 2) := by decide +kernel
theorem dX9_drift_85 : decode cX9_drift 85 = .ok (.invokevirtual 186, 3) := by decide +kernel
theorem dX9_drift_88 : decode cX9_drift 88 = .ok (.iinc 3 1, 3) := by decide +kernel
theorem dX9_drift_91 : decode cX9_drift 91 = .ok (.goto (-65), 3) := by decide +kernel
theorem dX9_drift_94 : decode cX9_drift 94 = .ok (.aload_n 0, 1) := by decide +kernel
theorem dX9_drift_95 : decode cX9_drift 95 = .ok (.getfield 26, 3) := by decide +kernel
theorem dX9_drift_98 : decode cX9_drift 98 = .ok (.getfield 123, 3) := by decide +kernel
theorem dX9_drift_101 : decode cX9_drift 101 = .ok (.ireturn, 1) := by decide +kernel
theorem dX9_undo_0 : decode cX9_undo 0 = .ok (.aload_n 0, 1) := by decide +kernel
theorem dX9_undo_1 : decode cX9_undo 1 = .ok (.getfield 33, 3) := by decide +kernel
theorem dX9_undo_4 : decode cX9_undo 4 = .ok (.aload_n 0, 1) := by decide +kernel
theorem dX9_undo_5 : decode cX9_undo 5 = .ok (.getfield 26, 3) := by decide +kernel
theorem dX9_undo_8 : decode cX9_undo 8 = .ok (.invokevirtual 203, 3) := by decide +kernel
theorem dX9_undo_11 : decode cX9_undo 11 = .ok (.ifCond .ne 6, 3) := by decide +kernel
theorem dX9_undo_14 : decode cX9_undo 14 = .ok (.ldc 180, 2) := by decide +kernel
theorem dX9_undo_16 : decode cX9_undo 16 = .ok (.ireturn, 1) := by decide +kernel
theorem dX9_undo_17 : decode cX9_undo 17 = .ok (.aload_n 0, 1) := by decide +kernel
theorem dX9_undo_18 : decode cX9_undo 18 = .ok (.getfield 33, 3) := by decide +kernel
theorem dX9_undo_21 : decode cX9_undo 21 = .ok (.getfield 146, 3) := by decide +kernel
theorem dX9_undo_24 : decode cX9_undo 24 = .ok (.ireturn, 1) := by decide +kernel
theorem dX9_watches_0 : decode cX9_watches 0 = .ok (.aload_n 0, 1) := by decide +kernel
theorem dX9_watches_1 : decode cX9_watches 1 = .ok (.getfield 19, 3) := by decide +kernel
theorem dX9_watches_4 : decode cX9_watches 4 = .ok (.invokevirtual 176, 3) := by decide +kernel
theorem dX9_watches_7 : decode cX9_watches 7 = .ok (.ifCond .ne 6, 3) := by decide +kernel
theorem dX9_watches_10 : decode cX9_watches 10 = .ok (.ldc 180, 2) := by decide +kernel
theorem dX9_watches_12 : decode cX9_watches 12 = .ok (.ireturn, 1) := by decide +kernel
theorem dX9_watches_13 : decode cX9_watches 13 = .ok (.aload_n 0, 1) := by decide +kernel
theorem dX9_watches_14 : decode cX9_watches 14 = .ok (.getfield 54, 3) := by decide +kernel
theorem dX9_watches_17 : decode cX9_watches 17 = .ok (.aload_n 0, 1) := by decide +kernel
theorem dX9_watches_18 : decode cX9_watches 18 = .ok (.getfield 19, 3) := by decide +kernel
theorem dX9_watches_21 : decode cX9_watches 21 = .ok (.aload_n 0, 1) := by decide +kernel
theorem dX9_watches_22 : decode cX9_watches 22 = .ok (.getfield 26, 3) := by decide +kernel
theorem dX9_watches_25 : decode cX9_watches 25 = .ok (.invokevirtual 207, 3) := by decide +kernel
theorem dX9_watches_28 : decode cX9_watches 28 = .ok (.ifCond .ne 5, 3) := by decide +kernel
theorem dX9_watches_31 : decode cX9_watches 31 = .ok (.iconst (-1), 1) := by decide +kernel
theorem dX9_watches_32 : decode cX9_watches 32 = .ok (.ireturn, 1) := by decide +kernel
theorem dX9_watches_33 : decode cX9_watches 33 = .ok (.iload_n 1, 1) := by decide +kernel
theorem dX9_watches_34 : decode cX9_watches 34 = .ok (.iconst (-1), 1) := by decide +kernel
theorem dX9_watches_35 : decode cX9_watches 35 = .ok (.if_icmp .ne 11, 3) := by decide +kernel
theorem dX9_watches_38 : decode cX9_watches 38 = .ok (.aload_n 0, 1) := by decide +kernel
theorem dX9_watches_39 : decode cX9_watches 39 = .ok (.getfield 54, 3) := by decide +kernel
theorem dX9_watches_42 : decode cX9_watches 42 = .ok (.getfield 211, 3) := by decide +kernel
theorem dX9_watches_45 : decode cX9_watches 45 = .ok (.ireturn, 1) := by decide +kernel
theorem dX9_watches_46 : decode cX9_watches 46 = .ok (.iload_n 1, 1) := by decide +kernel
theorem dX9_watches_47 : decode cX9_watches 47 = .ok (.ifCond .lt 20, 3) := by decide +kernel
theorem dX9_watches_50 : decode cX9_watches 50 = .ok (.iload_n 1, 1) := by decide +kernel
theorem dX9_watches_51 : decode cX9_watches 51 = .ok (.aload_n 0, 1) := by decide +kernel
theorem dX9_watches_52 : decode cX9_watches 52 = .ok (.getfield 19, 3) := by decide +kernel
theorem dX9_watches_55 : decode cX9_watches 55 = .ok (.getfield 108, 3) := by decide +kernel
theorem dX9_watches_58 : decode cX9_watches 58 = .ok (.if_icmp .ge 9, 3) := by decide +kernel
theorem dX9_watches_61 : decode cX9_watches 61 = .ok (.iload_n 1, 1) := by decide +kernel
theorem dX9_watches_62 : decode cX9_watches 62 = .ok (.bipush 6, 2) := by decide +kernel
theorem dX9_watches_64 : decode cX9_watches 64 = .ok (.if_icmp .lt 5, 3) := by decide +kernel
theorem dX9_watches_67 : decode cX9_watches 67 = .ok (.iconst (-1), 1) := by decide +kernel
theorem dX9_watches_68 : decode cX9_watches 68 = .ok (.ireturn, 1) := by decide +kernel
theorem dX9_watches_69 : decode cX9_watches 69 = .ok (.aload_n 0, 1) := by decide +kernel
theorem dX9_watches_70 : decode cX9_watches 70 = .ok (.getfield 54, 3) := by decide +kernel
theorem dX9_watches_73 : decode cX9_watches 73 = .ok (.getfield 214, 3) := by decide +kernel
theorem dX9_watches_76 : decode cX9_watches 76 = .ok (.iload_n 1, 1) := by decide +kernel
theorem dX9_watches_77 : decode cX9_watches 77 = .ok (.iaload, 1) := by decide +kernel
theorem dX9_watches_78 : decode cX9_watches 78 = .ok (.ireturn, 1) := by decide +kernel
theorem dX9_bellHour_0 : decode cX9_bellHour 0 = .ok (.iload_n 1, 1) := by decide +kernel
theorem dX9_bellHour_1 : decode cX9_bellHour 1 = .ok (.ifCond .eq 11, 3) := by decide +kernel
theorem dX9_bellHour_4 : decode cX9_bellHour 4 = .ok (.iload_n 1, 1) := by decide +kernel
theorem dX9_bellHour_5 : decode cX9_bellHour 5 = .ok (.iconst 1, 1) := by decide +kernel
theorem dX9_bellHour_6 : decode cX9_bellHour 6 = .ok (.if_icmp .eq 6, 3) := by decide +kernel
theorem dX9_bellHour_9 : decode cX9_bellHour 9 = .ok (.ldc 72, 2) := by decide +kernel
theorem dX9_bellHour_11 : decode cX9_bellHour 11 = .ok (.ireturn, 1) := by decide +kernel
theorem dX9_bellHour_12 : decode cX9_bellHour 12 = .ok (.aload_n 0, 1) := by decide +kernel
theorem dX9_bellHour_13 : decode cX9_bellHour 13 = .ok (.getfield 19, 3) := by decide +kernel
theorem dX9_bellHour_16 : decode cX9_bellHour 16 = .ok (.invokevirtual 176, 3) := by decide +kernel
theorem dX9_bellHour_19 : decode cX9_bellHour 19 = .ok (.ifCond .ne 6, 3) := by decide +kernel
theorem dX9_bellHour_22 : decode cX9_bellHour 22 = .ok (.ldc 180, 2) := by decide +kernel
theorem dX9_bellHour_24 : decode cX9_bellHour 24 = .ok (.ireturn, 1) := by decide +kernel
theorem dX9_bellHour_25 : decode cX9_bellHour 25 = .ok (.iconst 0, 1) := by decide +kernel
theorem dX9_bellHour_26 : decode cX9_bellHour 26 = .ok (.istore_n 2, 1) := by decide +kernel
theorem dX9_bellHour_27 : decode cX9_bellHour 27 = .ok (.aload_n 0, 1) := by decide +kernel
theorem dX9_bellHour_28 : decode cX9_bellHour 28 = .ok (.getfield 54, 3) := by decide +kernel
theorem dX9_bellHour_31 : decode cX9_bellHour 31 = .ok (.aload_n 0, 1) := by decide +kernel
theorem dX9_bellHour_32 : decode cX9_bellHour 32 = .ok (.getfield 19, 3) := by decide +kernel
theorem dX9_bellHour_35 : decode cX9_bellHour 35 = .ok (.aload_n 0, 1) := by decide +kernel
theorem dX9_bellHour_36 : decode cX9_bellHour 36 = .ok (.getfield 26, 3) := by decide +kernel
theorem dX9_bellHour_39 : decode cX9_bellHour 39 = .ok (.iconst 0, 1) := by decide +kernel
theorem dX9_bellHour_40 : decode cX9_bellHour 40 = .ok (.invokevirtual 217, 3) := by decide +kernel
theorem dX9_bellHour_43 : decode cX9_bellHour 43 = .ok (.istore_n 3, 1) := by decide +kernel
theorem dX9_bellHour_44 : decode cX9_bellHour 44 = .ok (.iconst 1, 1) := by decide +kernel
theorem dX9_bellHour_45 : decode cX9_bellHour 45 = .ok (.istore 4, 2) := by decide +kernel
theorem dX9_bellHour_47 : decode cX9_bellHour 47 = .ok (.iload 4, 2) := by decide +kernel
theorem dX9_bellHour_49 : decode cX9_bellHour 49 = .ok (.aload_n 0, 1) := by decide +kernel
theorem dX9_bellHour_50 : decode cX9_bellHour 50 = .ok (.getfield 19, 3) := by decide +kernel
theorem dX9_bellHour_53 : decode cX9_bellHour 53 = .ok (.getfield 108, 3) := by decide +kernel
theorem dX9_bellHour_56 : decode cX9_bellHour 56 = .ok (.if_icmp .ge 47, 3) := by decide +kernel
theorem dX9_bellHour_59 : decode cX9_bellHour 59 = .ok (.iload 4, 2) := by decide +kernel
theorem dX9_bellHour_61 : decode cX9_bellHour 61 = .ok (.bipush 6, 2) := by decide +kernel
theorem dX9_bellHour_63 : decode cX9_bellHour 63 = .ok (.if_icmp .ge 40, 3) := by decide +kernel
theorem dX9_bellHour_66 : decode cX9_bellHour 66 = .ok (.aload_n 0, 1) := by decide +kernel
theorem dX9_bellHour_67 : decode cX9_bellHour 67 = .ok (.getfield 54, 3) := by decide +kernel
theorem dX9_bellHour_70 : decode cX9_bellHour 70 = .ok (.aload_n 0, 1) := by decide +kernel
theorem dX9_bellHour_71 : decode cX9_bellHour 71 = .ok (.getfield 19, 3) := by decide +kernel
theorem dX9_bellHour_74 : decode cX9_bellHour 74 = .ok (.aload_n 0, 1) := by decide +kernel
theorem dX9_bellHour_75 : decode cX9_bellHour 75 = .ok (.getfield 26, 3) := by decide +kernel
theorem dX9_bellHour_78 : decode cX9_bellHour 78 = .ok (.iload 4, 2) := by decide +kernel
theorem dX9_bellHour_80 : decode cX9_bellHour 80 = .ok (.invokevirtual 217, 3) := by decide +kernel
theorem dX9_bellHour_83 : decode cX9_bellHour 83 = .ok (.istore 5, 2) := by decide +kernel
theorem dX9_bellHour_85 : decode cX9_bellHour 85 = .ok (.iload 5, 2) := by decide +kernel
theorem dX9_bellHour_87 : decode cX9_bellHour 87 = .ok (.iload_n 3, 1) := by decide +kernel
theorem dX9_bellHour_88 : decode cX9_bellHour 88 = .ok (.if_icmp .ge 9, 3) := by decide +kernel
theorem dX9_bellHour_91 : decode cX9_bellHour 91 = .ok (.iload 5, 2) := by decide +kernel
theorem dX9_bellHour_93 : decode cX9_bellHour 93 = .ok (.istore_n 3, 1) := by decide +kernel
theorem dX9_bellHour_94 : decode cX9_bellHour 94 = .ok (.iload 4, 2) := by decide +kernel
theorem dX9_bellHour_96 : decode cX9_bellHour 96 = .ok (.istore_n 2, 1) := by decide +kernel
theorem dX9_bellHour_97 : decode cX9_bellHour 97 = .ok (.iinc 4 1, 3) := by decide +kernel
theorem dX9_bellHour_100 : decode cX9_bellHour 100 = .ok (.goto (-53), 3) := by decide +kernel
theorem dX9_bellHour_103 : decode cX9_bellHour 103 = .ok (.iload_n 1, 1) := by decide +kernel
theorem dX9_bellHour_104 : decode cX9_bellHour 104 = .ok (.ifCond .ne 7, 3) := by decide +kernel
theorem dX9_bellHour_107 : decode cX9_bellHour 107 = .ok (.iload_n 2, 1) := by decide +kernel
theorem dX9_bellHour_108 : decode cX9_bellHour 108 = .ok (.goto 4, 3) := by decide +kernel
theorem dX9_bellHour_111 : decode cX9_bellHour 111 = .ok (.iload_n 3, 1) := by decide +kernel
theorem dX9_bellHour_112 : decode cX9_bellHour 112 = .ok (.ireturn, 1) := by decide +kernel
theorem dX9_coffeeFor_0 : decode cX9_coffeeFor 0 = .ok (.aload_n 0, 1) := by decide +kernel
theorem dX9_coffeeFor_1 : decode cX9_coffeeFor 1 = .ok (.getfield 19, 3) := by decide +kernel
theorem dX9_coffeeFor_4 : decode cX9_coffeeFor 4 = .ok (.invokevirtual 176, 3) := by decide +kernel
theorem dX9_coffeeFor_7 : decode cX9_coffeeFor 7 = .ok (.ifCond .ne 6, 3) := by decide +kernel
theorem dX9_coffeeFor_10 : decode cX9_coffeeFor 10 = .ok (.ldc 180, 2) := by decide +kernel
theorem dX9_coffeeFor_12 : decode cX9_coffeeFor 12 = .ok (.ireturn, 1) := by decide +kernel
theorem dX9_coffeeFor_13 : decode cX9_coffeeFor 13 = .ok (.iconst (-1), 1) := by decide +kernel
theorem dX9_coffeeFor_14 : decode cX9_coffeeFor 14 = .ok (.istore_n 1, 1) := by decide +kernel
theorem dX9_coffeeFor_15 : decode cX9_coffeeFor 15 = .ok (.iconst 0, 1) := by decide +kernel
theorem dX9_coffeeFor_16 : decode cX9_coffeeFor 16 = .ok (.istore_n 2, 1) := by decide +kernel
theorem dX9_coffeeFor_17 : decode cX9_coffeeFor 17 = .ok (.iconst 0, 1) := by decide +kernel
theorem dX9_coffeeFor_18 : decode cX9_coffeeFor 18 = .ok (.istore_n 3, 1) := by decide +kernel
theorem dX9_coffeeFor_19 : decode cX9_coffeeFor 19 = .ok (.iload_n 3, 1) := by decide +kernel
theorem dX9_coffeeFor_20 : decode cX9_coffeeFor 20 = .ok (.aload_n 0, 1) := by decide +kernel
theorem dX9_coffeeFor_21 : decode cX9_coffeeFor 21 = .ok (.getfield 19, 3) := by decide +kernel
theorem dX9_coffeeFor_24 : decode cX9_coffeeFor 24 = .ok (.getfield 102, 3) := by decide +kernel
theorem dX9_coffeeFor_27 : decode cX9_coffeeFor 27 = .ok (.if_icmp .ge 49, 3) := by decide +kernel
theorem dX9_coffeeFor_30 : decode cX9_coffeeFor 30 = .ok (.iload_n 3, 1) := by decide +kernel
theorem dX9_coffeeFor_31 : decode cX9_coffeeFor 31 = .ok (.bipush 6, 2) := by decide +kernel
theorem dX9_coffeeFor_33 : decode cX9_coffeeFor 33 = .ok (.if_icmp .ge 43, 3) := by decide +kernel
theorem dX9_coffeeFor_36 : decode cX9_coffeeFor 36 = .ok (.aload_n 0, 1) := by decide +kernel
theorem dX9_coffeeFor_37 : decode cX9_coffeeFor 37 = .ok (.getfield 54, 3) := by decide +kernel
theorem dX9_coffeeFor_40 : decode cX9_coffeeFor 40 = .ok (.aload_n 0, 1) := by decide +kernel
theorem dX9_coffeeFor_41 : decode cX9_coffeeFor 41 = .ok (.getfield 19, 3) := by decide +kernel
theorem dX9_coffeeFor_44 : decode cX9_coffeeFor 44 = .ok (.aload_n 0, 1) := by decide +kernel
theorem dX9_coffeeFor_45 : decode cX9_coffeeFor 45 = .ok (.getfield 26, 3) := by decide +kernel
theorem dX9_coffeeFor_48 : decode cX9_coffeeFor 48 = .ok (.iload_n 3, 1) := by decide +kernel
theorem dX9_coffeeFor_49 : decode cX9_coffeeFor 49 = .ok (.invokevirtual 221, 3) := by decide +kernel
theorem dX9_coffeeFor_52 : decode cX9_coffeeFor 52 = .ok (.istore 4, 2) := by decide +kernel
theorem dX9_coffeeFor_54 : decode cX9_coffeeFor 54 = .ok (.iload_n 1, 1) := by decide +kernel
theorem dX9_coffeeFor_55 : decode cX9_coffeeFor 55 = .ok (.iconst (-1), 1) := by decide +kernel
theorem dX9_coffeeFor_56 : decode cX9_coffeeFor 56 = .ok (.if_icmp .eq 9, 3) := by decide +kernel
theorem dX9_coffeeFor_59 : decode cX9_coffeeFor 59 = .ok (.iload 4, 2) := by decide +kernel
theorem dX9_coffeeFor_61 : decode cX9_coffeeFor 61 = .ok (.iload_n 2, 1) := by decide +kernel
theorem dX9_coffeeFor_62 : decode cX9_coffeeFor 62 = .ok (.if_icmp .ge 8, 3) := by decide +kernel
theorem dX9_coffeeFor_65 : decode cX9_coffeeFor 65 = .ok (.iload 4, 2) := by decide +kernel
theorem dX9_coffeeFor_67 : decode cX9_coffeeFor 67 = .ok (.istore_n 2, 1) := by decide +kernel
theorem dX9_coffeeFor_68 : decode cX9_coffeeFor 68 = .ok (.iload_n 3, 1) := by decide +kernel
theorem dX9_coffeeFor_69 : decode cX9_coffeeFor 69 = .ok (.istore_n 1, 1) := by decide +kernel
theorem dX9_coffeeFor_70 : decode cX9_coffeeFor 70 = .ok (.iinc 3 1, 3) := by decide +kernel
theorem dX9_coffeeFor_73 : decode cX9_coffeeFor 73 = .ok (.goto (-54), 3) := by decide +kernel
theorem dX9_coffeeFor_76 : decode cX9_coffeeFor 76 = .ok (.iload_n 1, 1) := by decide +kernel
theorem dX9_coffeeFor_77 : decode cX9_coffeeFor 77 = .ok (.ireturn, 1) := by decide +kernel
theorem dX9_nights_0 : decode cX9_nights 0 = .ok (.aload_n 0, 1) := by decide +kernel
theorem dX9_nights_1 : decode cX9_nights 1 = .ok (.getfield 19, 3) := by decide +kernel
theorem dX9_nights_4 : decode cX9_nights 4 = .ok (.iload_n 1, 1) := by decide +kernel
theorem dX9_nights_5 : decode cX9_nights 5 = .ok (.invokevirtual 147, 3) := by decide +kernel
theorem dX9_nights_8 : decode cX9_nights 8 = .ok (.ifCond .ne 6, 3) := by decide +kernel
theorem dX9_nights_11 : decode cX9_nights 11 = .ok (.ldc 150, 2) := by decide +kernel
theorem dX9_nights_13 : decode cX9_nights 13 = .ok (.ireturn, 1) := by decide +kernel
theorem dX9_nights_14 : decode cX9_nights 14 = .ok (.aload_n 0, 1) := by decide +kernel
theorem dX9_nights_15 : decode cX9_nights 15 = .ok (.getfield 54, 3) := by decide +kernel
theorem dX9_nights_18 : decode cX9_nights 18 = .ok (.aload_n 0, 1) := by decide +kernel
theorem dX9_nights_19 : decode cX9_nights 19 = .ok (.getfield 19, 3) := by decide +kernel
theorem dX9_nights_22 : decode cX9_nights 22 = .ok (.aload_n 0, 1) := by decide +kernel
theorem dX9_nights_23 : decode cX9_nights 23 = .ok (.getfield 26, 3) := by decide +kernel
theorem dX9_nights_26 : decode cX9_nights 26 = .ok (.iload_n 1, 1) := by decide +kernel
theorem dX9_nights_27 : decode cX9_nights 27 = .ok (.invokevirtual 224, 3) := by decide +kernel
theorem dX9_nights_30 : decode cX9_nights 30 = .ok (.ireturn, 1) := by decide +kernel
theorem dX9_hold_0 : decode cX9_hold 0 = .ok (.aload_n 0, 1) := by decide +kernel
theorem dX9_hold_1 : decode cX9_hold 1 = .ok (.getfield 19, 3) := by decide +kernel
theorem dX9_hold_4 : decode cX9_hold 4 = .ok (.invokevirtual 176, 3) := by decide +kernel
theorem dX9_hold_7 : decode cX9_hold 7 = .ok (.ifCond .ne 6, 3) := by decide +kernel
theorem dX9_hold_10 : decode cX9_hold 10 = .ok (.ldc 180, 2) := by decide +kernel
theorem dX9_hold_12 : decode cX9_hold 12 = .ok (.ireturn, 1) := by decide +kernel
theorem dX9_hold_13 : decode cX9_hold 13 = .ok (.aload_n 0, 1) := by decide +kernel
theorem dX9_hold_14 : decode cX9_hold 14 = .ok (.getfield 54, 3) := by decide +kernel
theorem dX9_hold_17 : decode cX9_hold 17 = .ok (.aload_n 0, 1) := by decide +kernel
theorem dX9_hold_18 : decode cX9_hold 18 = .ok (.getfield 19, 3) := by decide +kernel
theorem dX9_hold_21 : decode cX9_hold 21 = .ok (.aload_n 0, 1) := by decide +kernel
theorem dX9_hold_22 : decode cX9_hold 22 = .ok (.getfield 26, 3) := by decide +kernel
theorem dX9_hold_25 : decode cX9_hold 25 = .ok (.invokevirtual 227, 3) := by decide +kernel
theorem dX9_hold_28 : decode cX9_hold 28 = .ok (.ireturn, 1) := by decide +kernel
theorem dX9_share_0 : decode cX9_share 0 = .ok (.aload_n 0, 1) := by decide +kernel
theorem dX9_share_1 : decode cX9_share 1 = .ok (.getfield 19, 3) := by decide +kernel
theorem dX9_share_4 : decode cX9_share 4 = .ok (.iload_n 1, 1) := by decide +kernel
theorem dX9_share_5 : decode cX9_share 5 = .ok (.invokevirtual 147, 3) := by decide +kernel
theorem dX9_share_8 : decode cX9_share 8 = .ok (.ifCond .ne 6, 3) := by decide +kernel
theorem dX9_share_11 : decode cX9_share 11 = .ok (.ldc 150, 2) := by decide +kernel
theorem dX9_share_13 : decode cX9_share 13 = .ok (.ireturn, 1) := by decide +kernel
theorem dX9_share_14 : decode cX9_share 14 = .ok (.aload_n 0, 1) := by decide +kernel
theorem dX9_share_15 : decode cX9_share 15 = .ok (.getfield 26, 3) := by decide +kernel
theorem dX9_share_18 : decode cX9_share 18 = .ok (.iload_n 1, 1) := by decide +kernel
theorem dX9_share_19 : decode cX9_share 19 = .ok (.sipush 1000, 3) := by decide +kernel
theorem dX9_share_22 : decode cX9_share 22 = .ok (.invokevirtual 231, 3) := by decide +kernel
theorem dX9_share_25 : decode cX9_share 25 = .ok (.ireturn, 1) := by decide +kernel
theorem dX9_paid_0 : decode cX9_paid 0 = .ok (.aload_n 0, 1) := by decide +kernel
theorem dX9_paid_1 : decode cX9_paid 1 = .ok (.getfield 19, 3) := by decide +kernel
theorem dX9_paid_4 : decode cX9_paid 4 = .ok (.iload_n 1, 1) := by decide +kernel
theorem dX9_paid_5 : decode cX9_paid 5 = .ok (.invokevirtual 147, 3) := by decide +kernel
theorem dX9_paid_8 : decode cX9_paid 8 = .ok (.ifCond .ne 6, 3) := by decide +kernel
theorem dX9_paid_11 : decode cX9_paid 11 = .ok (.ldc 150, 2) := by decide +kernel
theorem dX9_paid_13 : decode cX9_paid 13 = .ok (.ireturn, 1) := by decide +kernel
theorem dX9_paid_14 : decode cX9_paid 14 = .ok (.aload_n 0, 1) := by decide +kernel
theorem dX9_paid_15 : decode cX9_paid 15 = .ok (.getfield 26, 3) := by decide +kernel
theorem dX9_paid_18 : decode cX9_paid 18 = .ok (.iload_n 1, 1) := by decide +kernel
theorem dX9_paid_19 : decode cX9_paid 19 = .ok (.iconst 0, 1) := by decide +kernel
theorem dX9_paid_20 : decode cX9_paid 20 = .ok (.aload_n 0, 1) := by decide +kernel
theorem dX9_paid_21 : decode cX9_paid 21 = .ok (.getfield 26, 3) := by decide +kernel
theorem dX9_paid_24 : decode cX9_paid 24 = .ok (.getfield 126, 3) := by decide +kernel
theorem dX9_paid_27 : decode cX9_paid 27 = .ok (.aload_n 0, 1) := by decide +kernel
theorem dX9_paid_28 : decode cX9_paid 28 = .ok (.getfield 26, 3) := by decide +kernel
theorem dX9_paid_31 : decode cX9_paid 31 = .ok (.getfield 127, 3) := by decide +kernel
theorem dX9_paid_34 : decode cX9_paid 34 = .ok (.isub, 1) := by decide +kernel
theorem dX9_paid_35 : decode cX9_paid 35 = .ok (.invokestatic 235, 3) := by decide +kernel
theorem dX9_paid_38 : decode cX9_paid 38 = .ok (.invokevirtual 231, 3) := by decide +kernel
theorem dX9_paid_41 : decode cX9_paid 41 = .ok (.ireturn, 1) := by decide +kernel
theorem dX9_blink_0 : decode cX9_blink 0 = .ok (.aload_n 0, 1) := by decide +kernel
theorem dX9_blink_1 : decode cX9_blink 1 = .ok (.getfield 19, 3) := by decide +kernel
theorem dX9_blink_4 : decode cX9_blink 4 = .ok (.iload_n 1, 1) := by decide +kernel
theorem dX9_blink_5 : decode cX9_blink 5 = .ok (.invokevirtual 147, 3) := by decide +kernel
theorem dX9_blink_8 : decode cX9_blink 8 = .ok (.ifCond .ne 6, 3) := by decide +kernel
theorem dX9_blink_11 : decode cX9_blink 11 = .ok (.ldc 150, 2) := by decide +kernel
theorem dX9_blink_13 : decode cX9_blink 13 = .ok (.ireturn, 1) := by decide +kernel
theorem dX9_blink_14 : decode cX9_blink 14 = .ok (.iload_n 2, 1) := by decide +kernel
theorem dX9_blink_15 : decode cX9_blink 15 = .ok (.ifCond .lt 19, 3) := by decide +kernel
theorem dX9_blink_18 : decode cX9_blink 18 = .ok (.iload_n 2, 1) := by decide +kernel
theorem dX9_blink_19 : decode cX9_blink 19 = .ok (.bipush 60, 2) := by decide +kernel
theorem dX9_blink_21 : decode cX9_blink 21 = .ok (.if_icmp .gt 13, 3) := by decide +kernel
theorem dX9_blink_24 : decode cX9_blink 24 = .ok (.iload_n 3, 1) := by decide +kernel
theorem dX9_blink_25 : decode cX9_blink 25 = .ok (.ifCond .lt 9, 3) := by decide +kernel
theorem dX9_blink_28 : decode cX9_blink 28 = .ok (.iload_n 3, 1) := by decide +kernel
theorem dX9_blink_29 : decode cX9_blink 29 = .ok (.bipush 100, 2) := by decide +kernel
theorem dX9_blink_31 : decode cX9_blink 31 = .ok (.if_icmp .le 6, 3) := by decide +kernel
theorem dX9_blink_34 : decode cX9_blink 34 = .ok (.ldc 72, 2) := by decide +kernel
theorem dX9_blink_36 : decode cX9_blink 36 = .ok (.ireturn, 1) := by decide +kernel
theorem dX9_blink_37 : decode cX9_blink 37 = .ok (.bipush 100, 2) := by decide +kernel
theorem dX9_blink_39 : decode cX9_blink 39 = .ok (.iload_n 3, 1) := by decide +kernel
theorem dX9_blink_40 : decode cX9_blink 40 = .ok (.aload_n 0, 1) := by decide +kernel
theorem dX9_blink_41 : decode cX9_blink 41 = .ok (.getfield 26, 3) := by decide +kernel
theorem dX9_blink_44 : decode cX9_blink 44 = .ok (.getfield 151, 3) := by decide +kernel
theorem dX9_blink_47 : decode cX9_blink 47 = .ok (.iload_n 1, 1) := by decide +kernel
theorem dX9_blink_48 : decode cX9_blink 48 = .ok (.iaload, 1) := by decide +kernel
theorem dX9_blink_49 : decode cX9_blink 49 = .ok (.bipush 10, 2) := by decide +kernel
theorem dX9_blink_51 : decode cX9_blink 51 = .ok (.idiv, 1) := by decide +kernel
theorem dX9_blink_52 : decode cX9_blink 52 = .ok (.iadd, 1) := by decide +kernel
theorem dX9_blink_53 : decode cX9_blink 53 = .ok (.invokestatic 240, 3) := by decide +kernel
theorem dX9_blink_56 : decode cX9_blink 56 = .ok (.istore 4, 2) := by decide +kernel
theorem dX9_blink_58 : decode cX9_blink 58 = .ok (.ldc2_w 243, 3) := by decide +kernel
theorem dX9_blink_61 : decode cX9_blink 61 = .ok (.lstore 5, 2) := by decide +kernel
theorem dX9_blink_63 : decode cX9_blink 63 = .ok (.iconst 0, 1) := by decide +kernel
theorem dX9_blink_64 : decode cX9_blink 64 = .ok (.istore 7, 2) := by decide +kernel
theorem dX9_blink_66 : decode cX9_blink 66 = .ok (.iload 7, 2) := by decide +kernel
theorem dX9_blink_68 : decode cX9_blink 68 = .ok (.iload_n 2, 1) := by decide +kernel
theorem dX9_blink_69 : decode cX9_blink 69 = .ok (.if_icmp .ge 31, 3) := by decide +kernel
theorem dX9_blink_72 : decode cX9_blink 72 = .ok (.iload 7, 2) := by decide +kernel
theorem dX9_blink_74 : decode cX9_blink 74 = .ok (.bipush 60, 2) := by decide +kernel
theorem dX9_blink_76 : decode cX9_blink 76 = .ok (.if_icmp .ge 24, 3) := by decide +kernel
theorem dX9_blink_79 : decode cX9_blink 79 = .ok (.lload 5, 2) := by decide +kernel
theorem dX9_blink_81 : decode cX9_blink 81 = .ok (.bipush 100, 2) := by decide +kernel
theorem dX9_blink_83 : decode cX9_blink 83 = .ok (.iload 4, 2) := by decide +kernel
theorem dX9_blink_85 : decode cX9_blink 85 = .ok (.isub, 1) := by decide +kernel
theorem dX9_blink_86 : decode cX9_blink 86 = .ok (.i2l, 1) := by decide +kernel
theorem dX9_blink_87 : decode cX9_blink 87 = .ok (.lmul, 1) := by decide +kernel
theorem dX9_blink_88 : decode cX9_blink 88 = .ok (.ldc2_w 245, 3) := by decide +kernel
theorem dX9_blink_91 : decode cX9_blink 91 = .ok (.ldiv, 1) := by decide +kernel
theorem dX9_blink_92 : decode cX9_blink 92 = .ok (.lstore 5, 2) := by decide +kernel
theorem dX9_blink_94 : decode cX9_blink 94 = .ok (.iinc 7 1, 3) := by decide +kernel
theorem dX9_blink_97 : decode cX9_blink 97 = .ok (.goto (-31), 3) := by decide +kernel
theorem dX9_blink_100 : decode cX9_blink 100 = .ok (.lload 5, 2) := by decide +kernel
theorem dX9_blink_102 : decode cX9_blink 102 = .ok (.l2i, 1) := by decide +kernel
theorem dX9_blink_103 : decode cX9_blink 103 = .ok (.ireturn, 1) := by decide +kernel
theorem dX9_see_0 : decode cX9_see 0 = .ok (.aload_n 0, 1) := by decide +kernel
theorem dX9_see_1 : decode cX9_see 1 = .ok (.getfield 19, 3) := by decide +kernel
theorem dX9_see_4 : decode cX9_see 4 = .ok (.iload_n 1, 1) := by decide +kernel
theorem dX9_see_5 : decode cX9_see 5 = .ok (.invokevirtual 167, 3) := by decide +kernel
theorem dX9_see_8 : decode cX9_see 8 = .ok (.ifCond .ne 6, 3) := by decide +kernel
theorem dX9_see_11 : decode cX9_see 11 = .ok (.ldc 150, 2) := by decide +kernel
theorem dX9_see_13 : decode cX9_see 13 = .ok (.ireturn, 1) := by decide +kernel
theorem dX9_see_14 : decode cX9_see 14 = .ok (.aload_n 0, 1) := by decide +kernel
theorem dX9_see_15 : decode cX9_see 15 = .ok (.getfield 61, 3) := by decide +kernel
theorem dX9_see_18 : decode cX9_see 18 = .ok (.iload_n 1, 1) := by decide +kernel
theorem dX9_see_19 : decode cX9_see 19 = .ok (.iload_n 2, 1) := by decide +kernel
theorem dX9_see_20 : decode cX9_see 20 = .ok (.invokevirtual 247, 3) := by decide +kernel
theorem dX9_see_23 : decode cX9_see 23 = .ok (.ifCond .ne 6, 3) := by decide +kernel
theorem dX9_see_26 : decode cX9_see 26 = .ok (.ldc 77, 2) := by decide +kernel
theorem dX9_see_28 : decode cX9_see 28 = .ok (.ireturn, 1) := by decide +kernel
theorem dX9_see_29 : decode cX9_see 29 = .ok (.aload_n 0, 1) := by decide +kernel
theorem dX9_see_30 : decode cX9_see 30 = .ok (.getfield 61, 3) := by decide +kernel
theorem dX9_see_33 : decode cX9_see 33 = .ok (.getfield 142, 3) := by decide +kernel
theorem dX9_see_36 : decode cX9_see 36 = .ok (.ireturn, 1) := by decide +kernel
theorem dX9_nodded_0 : decode cX9_nodded 0 = .ok (.aload_n 0, 1) := by decide +kernel
theorem dX9_nodded_1 : decode cX9_nodded 1 = .ok (.getfield 19, 3) := by decide +kernel
theorem dX9_nodded_4 : decode cX9_nodded 4 = .ok (.iload_n 1, 1) := by decide +kernel
theorem dX9_nodded_5 : decode cX9_nodded 5 = .ok (.invokevirtual 173, 3) := by decide +kernel
theorem dX9_nodded_8 : decode cX9_nodded 8 = .ok (.ifCond .ne 6, 3) := by decide +kernel
theorem dX9_nodded_11 : decode cX9_nodded 11 = .ok (.ldc 150, 2) := by decide +kernel
theorem dX9_nodded_13 : decode cX9_nodded 13 = .ok (.ireturn, 1) := by decide +kernel
theorem dX9_nodded_14 : decode cX9_nodded 14 = .ok (.iload_n 2, 1) := by decide +kernel
theorem dX9_nodded_15 : decode cX9_nodded 15 = .ok (.iconst (-1), 1) := by decide +kernel
theorem dX9_nodded_16 : decode cX9_nodded 16 = .ok (.if_icmp .ne 16, 3) := by decide +kernel
theorem dX9_nodded_19 : decode cX9_nodded 19 = .ok (.aload_n 0, 1) := by decide +kernel
theorem dX9_nodded_20 : decode cX9_nodded 20 = .ok (.getfield 61, 3) := by decide +kernel
theorem dX9_nodded_23 : decode cX9_nodded 23 = .ok (.aload_n 0, 1) := by decide +kernel
theorem dX9_nodded_24 : decode cX9_nodded 24 = .ok (.getfield 19, 3) := by decide +kernel
theorem dX9_nodded_27 : decode cX9_nodded 27 = .ok (.iload_n 1, 1) := by decide +kernel
theorem dX9_nodded_28 : decode cX9_nodded 28 = .ok (.invokevirtual 250, 3) := by decide +kernel
theorem dX9_nodded_31 : decode cX9_nodded 31 = .ok (.ireturn, 1) := by decide +kernel
theorem dX9_nodded_32 : decode cX9_nodded 32 = .ok (.iload_n 2, 1) := by decide +kernel
theorem dX9_nodded_33 : decode cX9_nodded 33 = .ok (.bipush (-2), 2) := by decide +kernel
theorem dX9_nodded_35 : decode cX9_nodded 35 = .ok (.if_icmp .ne 16, 3) := by decide +kernel
theorem dX9_nodded_38 : decode cX9_nodded 38 = .ok (.aload_n 0, 1) := by decide +kernel
theorem dX9_nodded_39 : decode cX9_nodded 39 = .ok (.getfield 61, 3) := by decide +kernel
theorem dX9_nodded_42 : decode cX9_nodded 42 = .ok (.aload_n 0, 1) := by decide +kernel
theorem dX9_nodded_43 : decode cX9_nodded 43 = .ok (.getfield 19, 3) := by decide +kernel
theorem dX9_nodded_46 : decode cX9_nodded 46 = .ok (.iload_n 1, 1) := by decide +kernel
theorem dX9_nodded_47 : decode cX9_nodded 47 = .ok (.invokevirtual 254, 3) := by decide +kernel
theorem dX9_nodded_50 : decode cX9_nodded 50 = .ok (.ireturn, 1) := by decide +kernel
theorem dX9_nodded_51 : decode cX9_nodded 51 = .ok (.aload_n 0, 1) := by decide +kernel
theorem dX9_nodded_52 : decode cX9_nodded 52 = .ok (.getfield 61, 3) := by decide +kernel
theorem dX9_nodded_55 : decode cX9_nodded 55 = .ok (.aload_n 0, 1) := by decide +kernel
theorem dX9_nodded_56 : decode cX9_nodded 56 = .ok (.getfield 19, 3) := by decide +kernel
theorem dX9_nodded_59 : decode cX9_nodded 59 = .ok (.iload_n 1, 1) := by decide +kernel
theorem dX9_nodded_60 : decode cX9_nodded 60 = .ok (.iload_n 2, 1) := by decide +kernel
theorem dX9_nodded_61 : decode cX9_nodded 61 = .ok (.invokevirtual 257, 3) := by decide +kernel
theorem dX9_nodded_64 : decode cX9_nodded 64 = .ok (.ireturn, 1) := by decide +kernel
theorem dX9_askNext_0 : decode cX9_askNext 0 = .ok (.aload_n 0, 1) := by decide +kernel
theorem dX9_askNext_1 : decode cX9_askNext 1 = .ok (.getfield 19, 3) := by decide +kernel
theorem dX9_askNext_4 : decode cX9_askNext 4 = .ok (.iload_n 1, 1) := by decide +kernel
theorem dX9_askNext_5 : decode cX9_askNext 5 = .ok (.invokevirtual 173, 3) := by decide +kernel
theorem dX9_askNext_8 : decode cX9_askNext 8 = .ok (.ifCond .ne 6, 3) := by decide +kernel
theorem dX9_askNext_11 : decode cX9_askNext 11 = .ok (.ldc 150, 2) := by decide +kernel
theorem dX9_askNext_13 : decode cX9_askNext 13 = .ok (.ireturn, 1) := by decide +kernel
theorem dX9_askNext_14 : decode cX9_askNext 14 = .ok (.aload_n 0, 1) := by decide +kernel
theorem dX9_askNext_15 : decode cX9_askNext 15 = .ok (.getfield 61, 3) := by decide +kernel
theorem dX9_askNext_18 : decode cX9_askNext 18 = .ok (.aload_n 0, 1) := by decide +kernel
theorem dX9_askNext_19 : decode cX9_askNext 19 = .ok (.getfield 19, 3) := by decide +kernel
theorem dX9_askNext_22 : decode cX9_askNext 22 = .ok (.iload_n 1, 1) := by decide +kernel
theorem dX9_askNext_23 : decode cX9_askNext 23 = .ok (.invokevirtual 261, 3) := by decide +kernel
theorem dX9_askNext_26 : decode cX9_askNext 26 = .ok (.ireturn, 1) := by decide +kernel
theorem dX9_write_0 : decode cX9_write 0 = .ok (.aload_n 0, 1) := by decide +kernel
theorem dX9_write_1 : decode cX9_write 1 = .ok (.getfield 19, 3) := by decide +kernel
theorem dX9_write_4 : decode cX9_write 4 = .ok (.iload_n 1, 1) := by decide +kernel
theorem dX9_write_5 : decode cX9_write 5 = .ok (.invokevirtual 147, 3) := by decide +kernel
theorem dX9_write_8 : decode cX9_write 8 = .ok (.ifCond .ne 6, 3) := by decide +kernel
theorem dX9_write_11 : decode cX9_write 11 = .ok (.ldc 150, 2) := by decide +kernel
theorem dX9_write_13 : decode cX9_write 13 = .ok (.ireturn, 1) := by decide +kernel
theorem dX9_write_14 : decode cX9_write 14 = .ok (.iload_n 2, 1) := by decide +kernel
theorem dX9_write_15 : decode cX9_write 15 = .ok (.ifCond .lt 10, 3) := by decide +kernel
theorem dX9_write_18 : decode cX9_write 18 = .ok (.iload_n 2, 1) := by decide +kernel
theorem dX9_write_19 : decode cX9_write 19 = .ok (.sipush 199, 3) := by decide +kernel
theorem dX9_write_22 : decode cX9_write 22 = .ok (.if_icmp .le 6, 3) := by decide +kernel
theorem dX9_write_25 : decode cX9_write 25 = .ok (.ldc 72, 2) := by decide +kernel
theorem dX9_write_27 : decode cX9_write 27 = .ok (.ireturn, 1) := by decide +kernel
theorem dX9_write_28 : decode cX9_write 28 = .ok (.aload_n 0, 1) := by decide +kernel
theorem dX9_write_29 : decode cX9_write 29 = .ok (.getfield 68, 3) := by decide +kernel
theorem dX9_write_32 : decode cX9_write 32 = .ok (.iload_n 1, 1) := by decide +kernel
theorem dX9_write_33 : decode cX9_write 33 = .ok (.iload_n 2, 1) := by decide +kernel
theorem dX9_write_34 : decode cX9_write 34 = .ok (.invokevirtual 264, 3) := by decide +kernel
theorem dX9_write_37 : decode cX9_write 37 = .ok (.ifCond .ne 6, 3) := by decide +kernel
theorem dX9_write_40 : decode cX9_write 40 = .ok (.ldc 77, 2) := by decide +kernel
theorem dX9_write_42 : decode cX9_write 42 = .ok (.ireturn, 1) := by decide +kernel
theorem dX9_write_43 : decode cX9_write 43 = .ok (.aload_n 0, 1) := by decide +kernel
theorem dX9_write_44 : decode cX9_write 44 = .ok (.getfield 68, 3) := by decide +kernel
theorem dX9_write_47 : decode cX9_write 47 = .ok (.getfield 145, 3) := by decide +kernel
theorem dX9_write_50 : decode cX9_write 50 = .ok (.ireturn, 1) := by decide +kernel
theorem dX9_tear_0 : decode cX9_tear 0 = .ok (.aload_n 0, 1) := by decide +kernel
theorem dX9_tear_1 : decode cX9_tear 1 = .ok (.getfield 61, 3) := by decide +kernel
theorem dX9_tear_4 : decode cX9_tear 4 = .ok (.getfield 142, 3) := by decide +kernel
theorem dX9_tear_7 : decode cX9_tear 7 = .ok (.aload_n 0, 1) := by decide +kernel
theorem dX9_tear_8 : decode cX9_tear 8 = .ok (.getfield 68, 3) := by decide +kernel
theorem dX9_tear_11 : decode cX9_tear 11 = .ok (.getfield 145, 3) := by decide +kernel
theorem dX9_tear_14 : decode cX9_tear 14 = .ok (.iadd, 1) := by decide +kernel
theorem dX9_tear_15 : decode cX9_tear 15 = .ok (.istore_n 1, 1) := by decide +kernel
theorem dX9_tear_16 : decode cX9_tear 16 = .ok (.aload_n 0, 1) := by decide +kernel
theorem dX9_tear_17 : decode cX9_tear 17 = .ok (.getfield 61, 3) := by decide +kernel
theorem dX9_tear_20 : decode cX9_tear 20 = .ok (.invokevirtual 100, 3) := by decide +kernel
theorem dX9_tear_23 : decode cX9_tear 23 = .ok (.aload_n 0, 1) := by decide +kernel
theorem dX9_tear_24 : decode cX9_tear 24 = .ok (.getfield 68, 3) := by decide +kernel
theorem dX9_tear_27 : decode cX9_tear 27 = .ok (.invokevirtual 101, 3) := by decide +kernel
theorem dX9_tear_30 : decode cX9_tear 30 = .ok (.iload_n 1, 1) := by decide +kernel
theorem dX9_tear_31 : decode cX9_tear 31 = .ok (.ireturn, 1) := by decide +kernel
theorem dX9_judge_0 : decode cX9_judge 0 = .ok (.aload_n 0, 1) := by decide +kernel
theorem dX9_judge_1 : decode cX9_judge 1 = .ok (.getfield 68, 3) := by decide +kernel
theorem dX9_judge_4 : decode cX9_judge 4 = .ok (.aload_n 0, 1) := by decide +kernel
theorem dX9_judge_5 : decode cX9_judge 5 = .ok (.getfield 26, 3) := by decide +kernel
theorem dX9_judge_8 : decode cX9_judge 8 = .ok (.invokevirtual 267, 3) := by decide +kernel
theorem dX9_judge_11 : decode cX9_judge 11 = .ok (.ireturn, 1) := by decide +kernel
theorem dX9_seed_0 : decode cX9_seed 0 = .ok (.iload_n 1, 1) := by decide +kernel
theorem dX9_seed_1 : decode cX9_seed 1 = .ok (.ifCond .ge 6, 3) := by decide +kernel
theorem dX9_seed_4 : decode cX9_seed 4 = .ok (.ldc 72, 2) := by decide +kernel
theorem dX9_seed_6 : decode cX9_seed 6 = .ok (.ireturn, 1) := by decide +kernel
theorem dX9_seed_7 : decode cX9_seed 7 = .ok (.aload_n 0, 1) := by decide +kernel
theorem dX9_seed_8 : decode cX9_seed 8 = .ok (.getfield 47, 3) := by decide +kernel
theorem dX9_seed_11 : decode cX9_seed 11 = .ok (.getfield 271, 3) := by decide +kernel
theorem dX9_seed_14 : decode cX9_seed 14 = .ok (.istore_n 2, 1) := by decide +kernel
theorem dX9_seed_15 : decode cX9_seed 15 = .ok (.aload_n 0, 1) := by decide +kernel
theorem dX9_seed_16 : decode cX9_seed 16 = .ok (.getfield 47, 3) := by decide +kernel
theorem dX9_seed_19 : decode cX9_seed 19 = .ok (.iload_n 1, 1) := by decide +kernel
theorem dX9_seed_20 : decode cX9_seed 20 = .ok (.putfield 271, 3) := by decide +kernel
theorem dX9_seed_23 : decode cX9_seed 23 = .ok (.iload_n 2, 1) := by decide +kernel
theorem dX9_seed_24 : decode cX9_seed 24 = .ok (.ireturn, 1) := by decide +kernel
theorem dX9_keep_0 : decode cX9_keep 0 = .ok (.aload_n 0, 1) := by decide +kernel
theorem dX9_keep_1 : decode cX9_keep 1 = .ok (.getfield 40, 3) := by decide +kernel
theorem dX9_keep_4 : decode cX9_keep 4 = .ok (.iload_n 1, 1) := by decide +kernel
theorem dX9_keep_5 : decode cX9_keep 5 = .ok (.invokevirtual 274, 3) := by decide +kernel
theorem dX9_keep_8 : decode cX9_keep 8 = .ok (.ifCond .ne 6, 3) := by decide +kernel
theorem dX9_keep_11 : decode cX9_keep 11 = .ok (.ldc 150, 2) := by decide +kernel
theorem dX9_keep_13 : decode cX9_keep 13 = .ok (.ireturn, 1) := by decide +kernel
theorem dX9_keep_14 : decode cX9_keep 14 = .ok (.aload_n 0, 1) := by decide +kernel
theorem dX9_keep_15 : decode cX9_keep 15 = .ok (.getfield 40, 3) := by decide +kernel
theorem dX9_keep_18 : decode cX9_keep 18 = .ok (.iload_n 1, 1) := by decide +kernel
theorem dX9_keep_19 : decode cX9_keep 19 = .ok (.aload_n 0, 1) := by decide +kernel
theorem dX9_keep_20 : decode cX9_keep 20 = .ok (.getfield 26, 3) := by decide +kernel
theorem dX9_keep_23 : decode cX9_keep 23 = .ok (.aload_n 0, 1) := by decide +kernel
theorem dX9_keep_24 : decode cX9_keep 24 = .ok (.getfield 47, 3) := by decide +kernel
theorem dX9_keep_27 : decode cX9_keep 27 = .ok (.invokevirtual 277, 3) := by decide +kernel
theorem dX9_keep_30 : decode cX9_keep 30 = .ok (.aload_n 0, 1) := by decide +kernel
theorem dX9_keep_31 : decode cX9_keep 31 = .ok (.getfield 33, 3) := by decide +kernel
theorem dX9_keep_34 : decode cX9_keep 34 = .ok (.invokevirtual 96, 3) := by decide +kernel
theorem dX9_keep_37 : decode cX9_keep 37 = .ok (.iconst 1, 1) := by decide +kernel
theorem dX9_keep_38 : decode cX9_keep 38 = .ok (.ireturn, 1) := by decide +kernel
theorem dX9_goBack_0 : decode cX9_goBack 0 = .ok (.aload_n 0, 1) := by decide +kernel
theorem dX9_goBack_1 : decode cX9_goBack 1 = .ok (.getfield 40, 3) := by decide +kernel
theorem dX9_goBack_4 : decode cX9_goBack 4 = .ok (.iload_n 1, 1) := by decide +kernel
theorem dX9_goBack_5 : decode cX9_goBack 5 = .ok (.invokevirtual 274, 3) := by decide +kernel
theorem dX9_goBack_8 : decode cX9_goBack 8 = .ok (.ifCond .ne 6, 3) := by decide +kernel
theorem dX9_goBack_11 : decode cX9_goBack 11 = .ok (.ldc 150, 2) := by decide +kernel
theorem dX9_goBack_13 : decode cX9_goBack 13 = .ok (.ireturn, 1) := by decide +kernel
theorem dX9_goBack_14 : decode cX9_goBack 14 = .ok (.aload_n 0, 1) := by decide +kernel
theorem dX9_goBack_15 : decode cX9_goBack 15 = .ok (.getfield 40, 3) := by decide +kernel
theorem dX9_goBack_18 : decode cX9_goBack 18 = .ok (.iload_n 1, 1) := by decide +kernel
theorem dX9_goBack_19 : decode cX9_goBack 19 = .ok (.aload_n 0, 1) := by decide +kernel
theorem dX9_goBack_20 : decode cX9_goBack 20 = .ok (.getfield 26, 3) := by decide +kernel
theorem dX9_goBack_23 : decode cX9_goBack 23 = .ok (.aload_n 0, 1) := by decide +kernel
theorem dX9_goBack_24 : decode cX9_goBack 24 = .ok (.getfield 47, 3) := by decide +kernel
theorem dX9_goBack_27 : decode cX9_goBack 27 = .ok (.invokevirtual 281, 3) := by decide +kernel
theorem dX9_goBack_30 : decode cX9_goBack 30 = .ok (.ifCond .ne 6, 3) := by decide +kernel
theorem dX9_goBack_33 : decode cX9_goBack 33 = .ok (.ldc 180, 2) := by decide +kernel
theorem dX9_goBack_35 : decode cX9_goBack 35 = .ok (.ireturn, 1) := by decide +kernel
theorem dX9_goBack_36 : decode cX9_goBack 36 = .ok (.aload_n 0, 1) := by decide +kernel
theorem dX9_goBack_37 : decode cX9_goBack 37 = .ok (.getfield 33, 3) := by decide +kernel
theorem dX9_goBack_40 : decode cX9_goBack 40 = .ok (.invokevirtual 96, 3) := by decide +kernel
theorem dX9_goBack_43 : decode cX9_goBack 43 = .ok (.iconst 1, 1) := by decide +kernel
theorem dX9_goBack_44 : decode cX9_goBack 44 = .ok (.ireturn, 1) := by decide +kernel
theorem dX9_refusalOfHours_0 : decode cX9_refusalOfHours 0 = .ok (.iload_n 1, 1) := by decide +kernel
theorem dX9_refusalOfHours_1 : decode cX9_refusalOfHours 1 = .ok (.iconst 1, 1) := by decide +kernel
theorem dX9_refusalOfHours_2 : decode cX9_refusalOfHours 2 = .ok (.if_icmp .lt 9, 3) := by decide +kernel
theorem dX9_refusalOfHours_5 : decode cX9_refusalOfHours 5 = .ok (.iload_n 1, 1) := by decide +kernel
theorem dX9_refusalOfHours_6 : decode cX9_refusalOfHours 6 = .ok (.bipush 60, 2) := by decide +kernel
theorem dX9_refusalOfHours_8 : decode cX9_refusalOfHours 8 = .ok (.if_icmp .le 6, 3) := by decide +kernel
theorem dX9_refusalOfHours_11 : decode cX9_refusalOfHours 11 = .ok (.ldc 72, 2) := by decide +kernel
theorem dX9_refusalOfHours_13 : decode cX9_refusalOfHours 13 = .ok (.ireturn, 1) := by decide +kernel
theorem dX9_refusalOfHours_14 : decode cX9_refusalOfHours 14 = .ok (.aload_n 0, 1) := by decide +kernel
theorem dX9_refusalOfHours_15 : decode cX9_refusalOfHours 15 = .ok (.getfield 19, 3) := by decide +kernel
theorem dX9_refusalOfHours_18 : decode cX9_refusalOfHours 18 = .ok (.invokevirtual 176, 3) := by decide +kernel
theorem dX9_refusalOfHours_21 : decode cX9_refusalOfHours 21 = .ok (.ifCond .ne 6, 3) := by decide +kernel
theorem dX9_refusalOfHours_24 : decode cX9_refusalOfHours 24 = .ok (.ldc 180, 2) := by decide +kernel
theorem dX9_refusalOfHours_26 : decode cX9_refusalOfHours 26 = .ok (.ireturn, 1) := by decide +kernel
theorem dX9_refusalOfHours_27 : decode cX9_refusalOfHours 27 = .ok (.aload_n 0, 1) := by decide +kernel
theorem dX9_refusalOfHours_28 : decode cX9_refusalOfHours 28 = .ok (.getfield 26, 3) := by decide +kernel
theorem dX9_refusalOfHours_31 : decode cX9_refusalOfHours 31 = .ok (.getfield 123, 3) := by decide +kernel
theorem dX9_refusalOfHours_34 : decode cX9_refusalOfHours 34 = .ok (.ldc 181, 2) := by decide +kernel
theorem dX9_refusalOfHours_36 : decode cX9_refusalOfHours 36 = .ok (.if_icmp .le 6, 3) := by decide +kernel
theorem dX9_refusalOfHours_39 : decode cX9_refusalOfHours 39 = .ok (.ldc 77, 2) := by decide +kernel
theorem dX9_refusalOfHours_41 : decode cX9_refusalOfHours 41 = .ok (.ireturn, 1) := by decide +kernel
theorem dX9_refusalOfHours_42 : decode cX9_refusalOfHours 42 = .ok (.iconst (-1), 1) := by decide +kernel
theorem dX9_refusalOfHours_43 : decode cX9_refusalOfHours 43 = .ok (.ireturn, 1) := by decide +kernel
theorem dX9_afterCoffee_0 : decode cX9_afterCoffee 0 = .ok (.iconst 0, 1) := by decide +kernel
theorem dX9_afterCoffee_1 : decode cX9_afterCoffee 1 = .ok (.iload_n 0, 1) := by decide +kernel
theorem dX9_afterCoffee_2 : decode cX9_afterCoffee 2 = .ok (.bipush 30, 2) := by decide +kernel
theorem dX9_afterCoffee_4 : decode cX9_afterCoffee 4 = .ok (.isub, 1) := by decide +kernel
theorem dX9_afterCoffee_5 : decode cX9_afterCoffee 5 = .ok (.invokestatic 235, 3) := by decide +kernel
theorem dX9_afterCoffee_8 : decode cX9_afterCoffee 8 = .ok (.ireturn, 1) := by decide +kernel
theorem dJ6_bitCount_0f7a4_0 : decode cJ6_bitCount_0f7a4 0 = .ok (.iload_n 0, 1) := by decide +kernel
theorem dJ6_bitCount_0f7a4_1 : decode cJ6_bitCount_0f7a4 1 = .ok (.iload_n 0, 1) := by decide +kernel
theorem dJ6_bitCount_0f7a4_2 : decode cJ6_bitCount_0f7a4 2 = .ok (.iconst 1, 1) := by decide +kernel
theorem dJ6_bitCount_0f7a4_3 : decode cJ6_bitCount_0f7a4 3 = .ok (.iushr, 1) := by decide +kernel
theorem dJ6_bitCount_0f7a4_4 : decode cJ6_bitCount_0f7a4 4 = .ok (.ldc_w 265, 3) := by decide +kernel
theorem dJ6_bitCount_0f7a4_7 : decode cJ6_bitCount_0f7a4 7 = .ok (.iand, 1) := by decide +kernel
theorem dJ6_bitCount_0f7a4_8 : decode cJ6_bitCount_0f7a4 8 = .ok (.isub, 1) := by decide +kernel
theorem dJ6_bitCount_0f7a4_9 : decode cJ6_bitCount_0f7a4 9 = .ok (.istore_n 0, 1) := by decide +kernel
theorem dJ6_bitCount_0f7a4_10 : decode cJ6_bitCount_0f7a4 10 = .ok (.iload_n 0, 1) := by decide +kernel
theorem dJ6_bitCount_0f7a4_11 : decode cJ6_bitCount_0f7a4 11 = .ok (.ldc_w 266, 3) := by decide +kernel
theorem dJ6_bitCount_0f7a4_14 : decode cJ6_bitCount_0f7a4 14 = .ok (.iand, 1) := by decide +kernel
theorem dJ6_bitCount_0f7a4_15 : decode cJ6_bitCount_0f7a4 15 = .ok (.iload_n 0, 1) := by decide +kernel
theorem dJ6_bitCount_0f7a4_16 : decode cJ6_bitCount_0f7a4 16 = .ok (.iconst 2, 1) := by decide +kernel
theorem dJ6_bitCount_0f7a4_17 : decode cJ6_bitCount_0f7a4 17 = .ok (.iushr, 1) := by decide +kernel
theorem dJ6_bitCount_0f7a4_18 : decode cJ6_bitCount_0f7a4 18 = .ok (.ldc_w 266, 3) := by decide +kernel
theorem dJ6_bitCount_0f7a4_21 : decode cJ6_bitCount_0f7a4 21 = .ok (.iand, 1) := by decide +kernel
theorem dJ6_bitCount_0f7a4_22 : decode cJ6_bitCount_0f7a4 22 = .ok (.iadd, 1) := by decide +kernel
theorem dJ6_bitCount_0f7a4_23 : decode cJ6_bitCount_0f7a4 23 = .ok (.istore_n 0, 1) := by decide +kernel
theorem dJ6_bitCount_0f7a4_24 : decode cJ6_bitCount_0f7a4 24 = .ok (.iload_n 0, 1) := by decide +kernel
theorem dJ6_bitCount_0f7a4_25 : decode cJ6_bitCount_0f7a4 25 = .ok (.iload_n 0, 1) := by decide +kernel
theorem dJ6_bitCount_0f7a4_26 : decode cJ6_bitCount_0f7a4 26 = .ok (.iconst 4, 1) := by decide +kernel
theorem dJ6_bitCount_0f7a4_27 : decode cJ6_bitCount_0f7a4 27 = .ok (.iushr, 1) := by decide +kernel
theorem dJ6_bitCount_0f7a4_28 : decode cJ6_bitCount_0f7a4 28 = .ok (.iadd, 1) := by decide +kernel
theorem dJ6_bitCount_0f7a4_29 : decode cJ6_bitCount_0f7a4 29 = .ok (.ldc_w 267, 3) := by decide +kernel
theorem dJ6_bitCount_0f7a4_32 : decode cJ6_bitCount_0f7a4 32 = .ok (.iand, 1) := by decide +kernel
theorem dJ6_bitCount_0f7a4_33 : decode cJ6_bitCount_0f7a4 33 = .ok (.istore_n 0, 1) := by decide +kernel
theorem dJ6_bitCount_0f7a4_34 : decode cJ6_bitCount_0f7a4 34 = .ok (.iload_n 0, 1) := by decide +kernel
theorem dJ6_bitCount_0f7a4_35 : decode cJ6_bitCount_0f7a4 35 = .ok (.iload_n 0, 1) := by decide +kernel
theorem dJ6_bitCount_0f7a4_36 : decode cJ6_bitCount_0f7a4 36 = .ok (.bipush 8, 2) := by decide +kernel
theorem dJ6_bitCount_0f7a4_38 : decode cJ6_bitCount_0f7a4 38 = .ok (.iushr, 1) := by decide +kernel
theorem dJ6_bitCount_0f7a4_39 : decode cJ6_bitCount_0f7a4 39 = .ok (.iadd, 1) := by decide +kernel
theorem dJ6_bitCount_0f7a4_40 : decode cJ6_bitCount_0f7a4 40 = .ok (.istore_n 0, 1) := by decide +kernel
theorem dJ6_bitCount_0f7a4_41 : decode cJ6_bitCount_0f7a4 41 = .ok (.iload_n 0, 1) := by decide +kernel
theorem dJ6_bitCount_0f7a4_42 : decode cJ6_bitCount_0f7a4 42 = .ok (.iload_n 0, 1) := by decide +kernel
theorem dJ6_bitCount_0f7a4_43 : decode cJ6_bitCount_0f7a4 43 = .ok (.bipush 16, 2) := by decide +kernel
theorem dJ6_bitCount_0f7a4_45 : decode cJ6_bitCount_0f7a4 45 = .ok (.iushr, 1) := by decide +kernel
theorem dJ6_bitCount_0f7a4_46 : decode cJ6_bitCount_0f7a4 46 = .ok (.iadd, 1) := by decide +kernel
theorem dJ6_bitCount_0f7a4_47 : decode cJ6_bitCount_0f7a4 47 = .ok (.istore_n 0, 1) := by decide +kernel
theorem dJ6_bitCount_0f7a4_48 : decode cJ6_bitCount_0f7a4 48 = .ok (.iload_n 0, 1) := by decide +kernel
theorem dJ6_bitCount_0f7a4_49 : decode cJ6_bitCount_0f7a4 49 = .ok (.bipush 63, 2) := by decide +kernel
theorem dJ6_bitCount_0f7a4_51 : decode cJ6_bitCount_0f7a4 51 = .ok (.iand, 1) := by decide +kernel
theorem dJ6_bitCount_0f7a4_52 : decode cJ6_bitCount_0f7a4 52 = .ok (.ireturn, 1) := by decide +kernel
theorem dJ9_max_7cf53_0 : decode cJ9_max_7cf53 0 = .ok (.iload_n 0, 1) := by decide +kernel
theorem dJ9_max_7cf53_1 : decode cJ9_max_7cf53 1 = .ok (.iload_n 1, 1) := by decide +kernel
theorem dJ9_max_7cf53_2 : decode cJ9_max_7cf53 2 = .ok (.if_icmp .lt 7, 3) := by decide +kernel
theorem dJ9_max_7cf53_5 : decode cJ9_max_7cf53 5 = .ok (.iload_n 0, 1) := by decide +kernel
theorem dJ9_max_7cf53_6 : decode cJ9_max_7cf53 6 = .ok (.goto 4, 3) := by decide +kernel
theorem dJ9_max_7cf53_9 : decode cJ9_max_7cf53 9 = .ok (.iload_n 1, 1) := by decide +kernel
theorem dJ9_max_7cf53_10 : decode cJ9_max_7cf53 10 = .ok (.ireturn, 1) := by decide +kernel
theorem dJ9_min_7cf53_0 : decode cJ9_min_7cf53 0 = .ok (.iload_n 0, 1) := by decide +kernel
theorem dJ9_min_7cf53_1 : decode cJ9_min_7cf53 1 = .ok (.iload_n 1, 1) := by decide +kernel
theorem dJ9_min_7cf53_2 : decode cJ9_min_7cf53 2 = .ok (.if_icmp .gt 7, 3) := by decide +kernel
theorem dJ9_min_7cf53_5 : decode cJ9_min_7cf53 5 = .ok (.iload_n 0, 1) := by decide +kernel
theorem dJ9_min_7cf53_6 : decode cJ9_min_7cf53 6 = .ok (.goto 4, 3) := by decide +kernel
theorem dJ9_min_7cf53_9 : decode cJ9_min_7cf53 9 = .ok (.iload_n 1, 1) := by decide +kernel
theorem dJ9_min_7cf53_10 : decode cJ9_min_7cf53 10 = .ok (.ireturn, 1) := by decide +kernel
end
section
theorem dX10_init_0 : decode cX10_init 0 = .ok (.aload_n 0, 1) := by decide +kernel
theorem dX10_init_1 : decode cX10_init 1 = .ok (.invokespecial 1, 3) := by decide +kernel
theorem dX10_init_4 : decode cX10_init 4 = .ok (.aload_n 0, 1) := by decide +kernel
theorem dX10_init_5 : decode cX10_init 5 = .ok (.bipush 6, 2) := by decide +kernel
theorem dX10_init_7 : decode cX10_init 7 = .ok (.newarray .int, 2) := by decide +kernel
theorem dX10_init_9 : decode cX10_init 9 = .ok (.putfield 7, 3) := by decide +kernel
theorem dX10_init_12 : decode cX10_init 12 = .ok (.aload_n 0, 1) := by decide +kernel
theorem dX10_init_13 : decode cX10_init 13 = .ok (.bipush 6, 2) := by decide +kernel
theorem dX10_init_15 : decode cX10_init 15 = .ok (.newarray .int, 2) := by decide +kernel
theorem dX10_init_17 : decode cX10_init 17 = .ok (.putfield 13, 3) := by decide +kernel
theorem dX10_init_20 : decode cX10_init 20 = .ok (.aload_n 0, 1) := by decide +kernel
theorem dX10_init_21 : decode cX10_init 21 = .ok (.bipush 6, 2) := by decide +kernel
theorem dX10_init_23 : decode cX10_init 23 = .ok (.newarray .int, 2) := by decide +kernel
theorem dX10_init_25 : decode cX10_init 25 = .ok (.putfield 16, 3) := by decide +kernel
theorem dX10_init_28 : decode cX10_init 28 = .ok (.aload_n 0, 1) := by decide +kernel
theorem dX10_init_29 : decode cX10_init 29 = .ok (.bipush 8, 2) := by decide +kernel
theorem dX10_init_31 : decode cX10_init 31 = .ok (.newarray .int, 2) := by decide +kernel
theorem dX10_init_33 : decode cX10_init 33 = .ok (.putfield 19, 3) := by decide +kernel
theorem dX10_init_36 : decode cX10_init 36 = .ok (.aload_n 0, 1) := by decide +kernel
theorem dX10_init_37 : decode cX10_init 37 = .ok (.bipush 19, 2) := by decide +kernel
theorem dX10_init_39 : decode cX10_init 39 = .ok (.newarray .int, 2) := by decide +kernel
theorem dX10_init_41 : decode cX10_init 41 = .ok (.putfield 22, 3) := by decide +kernel
theorem dX10_init_44 : decode cX10_init 44 = .ok (.aload_n 0, 1) := by decide +kernel
theorem dX10_init_45 : decode cX10_init 45 = .ok (.sipush 220, 3) := by decide +kernel
theorem dX10_init_48 : decode cX10_init 48 = .ok (.newarray .int, 2) := by decide +kernel
theorem dX10_init_50 : decode cX10_init 50 = .ok (.putfield 25, 3) := by decide +kernel
theorem dX10_init_53 : decode cX10_init 53 = .ok (.aload_n 0, 1) := by decide +kernel
theorem dX10_init_54 : decode cX10_init 54 = .ok (.iconst (-1), 1) := by decide +kernel
theorem dX10_init_55 : decode cX10_init 55 = .ok (.putfield 28, 3) := by decide +kernel
theorem dX10_init_58 : decode cX10_init 58 = .ok (.aload_n 0, 1) := by decide +kernel
theorem dX10_init_59 : decode cX10_init 59 = .ok (.iconst 4, 1) := by decide +kernel
theorem dX10_init_60 : decode cX10_init 60 = .ok (.newarray .int, 2) := by decide +kernel
theorem dX10_init_62 : decode cX10_init 62 = .ok (.putfield 32, 3) := by decide +kernel
theorem dX10_init_65 : decode cX10_init 65 = .ok (.aload_n 0, 1) := by decide +kernel
theorem dX10_init_66 : decode cX10_init 66 = .ok (.bipush 6, 2) := by decide +kernel
theorem dX10_init_68 : decode cX10_init 68 = .ok (.newarray .int, 2) := by decide +kernel
theorem dX10_init_70 : decode cX10_init 70 = .ok (.putfield 35, 3) := by decide +kernel
theorem dX10_init_73 : decode cX10_init 73 = .ok (.aload_n 0, 1) := by decide +kernel
theorem dX10_init_74 : decode cX10_init 74 = .ok (.bipush 6, 2) := by decide +kernel
theorem dX10_init_76 : decode cX10_init 76 = .ok (.newarray .int, 2) := by decide +kernel
theorem dX10_init_78 : decode cX10_init 78 = .ok (.putfield 38, 3) := by decide +kernel
theorem dX10_init_81 : decode cX10_init 81 = .ok (.aload_n 0, 1) := by decide +kernel
theorem dX10_init_82 : decode cX10_init 82 = .ok (.bipush 6, 2) := by decide +kernel
theorem dX10_init_84 : decode cX10_init 84 = .ok (.newarray .int, 2) := by decide +kernel
theorem dX10_init_86 : decode cX10_init 86 = .ok (.putfield 41, 3) := by decide +kernel
theorem dX10_init_89 : decode cX10_init 89 = .ok (.aload_n 0, 1) := by decide +kernel
theorem dX10_init_90 : decode cX10_init 90 = .ok (.bipush 6, 2) := by decide +kernel
theorem dX10_init_92 : decode cX10_init 92 = .ok (.newarray .int, 2) := by decide +kernel
theorem dX10_init_94 : decode cX10_init 94 = .ok (.putfield 44, 3) := by decide +kernel
theorem dX10_init_97 : decode cX10_init 97 = .ok (.aload_n 0, 1) := by decide +kernel
theorem dX10_init_98 : decode cX10_init 98 = .ok (.bipush 8, 2) := by decide +kernel
theorem dX10_init_100 : decode cX10_init 100 = .ok (.newarray .int, 2) := by decide +kernel
theorem dX10_init_102 : decode cX10_init 102 = .ok (.putfield 47, 3) := by decide +kernel
theorem dX10_init_105 : decode cX10_init 105 = .ok (.aload_n 0, 1) := by decide +kernel
theorem dX10_init_106 : decode cX10_init 106 = .ok (.sipush 380, 3) := by decide +kernel
theorem dX10_init_109 : decode cX10_init 109 = .ok (.newarray .int, 2) := by decide +kernel
theorem dX10_init_111 : decode cX10_init 111 = .ok (.putfield 50, 3) := by decide +kernel
theorem dX10_init_114 : decode cX10_init 114 = .ok (.aload_n 0, 1) := by decide +kernel
theorem dX10_init_115 : decode cX10_init 115 = .ok (.bipush 6, 2) := by decide +kernel
theorem dX10_init_117 : decode cX10_init 117 = .ok (.newarray .int, 2) := by decide +kernel
theorem dX10_init_119 : decode cX10_init 119 = .ok (.putfield 53, 3) := by decide +kernel
theorem dX10_init_122 : decode cX10_init 122 = .ok (.aload_n 0, 1) := by decide +kernel
theorem dX10_init_123 : decode cX10_init 123 = .ok (.bipush 6, 2) := by decide +kernel
theorem dX10_init_125 : decode cX10_init 125 = .ok (.newarray .int, 2) := by decide +kernel
theorem dX10_init_127 : decode cX10_init 127 = .ok (.putfield 56, 3) := by decide +kernel
theorem dX10_init_130 : decode cX10_init 130 = .ok (.aload_n 0, 1) := by decide +kernel
theorem dX10_init_131 : decode cX10_init 131 = .ok (.bipush 6, 2) := by decide +kernel
theorem dX10_init_133 : decode cX10_init 133 = .ok (.newarray .int, 2) := by decide +kernel
theorem dX10_init_135 : decode cX10_init 135 = .ok (.putfield 59, 3) := by decide +kernel
theorem dX10_init_138 : decode cX10_init 138 = .ok (.aload_n 0, 1) := by decide +kernel
theorem dX10_init_139 : decode cX10_init 139 = .ok (.bipush 8, 2) := by decide +kernel
theorem dX10_init_141 : decode cX10_init 141 = .ok (.newarray .int, 2) := by decide +kernel
theorem dX10_init_143 : decode cX10_init 143 = .ok (.putfield 62, 3) := by decide +kernel
theorem dX10_init_146 : decode cX10_init 146 = .ok (.aload_n 0, 1) := by decide +kernel
theorem dX10_init_147 : decode cX10_init 147 = .ok (.bipush 8, 2) := by decide +kernel
theorem dX10_init_149 : decode cX10_init 149 = .ok (.newarray .boolean, 2) := by decide +kernel
theorem dX10_init_151 : decode cX10_init 151 = .ok (.putfield 65, 3) := by decide +kernel
theorem dX10_init_154 : decode cX10_init 154 = .ok (.aload_n 0, 1) := by decide +kernel
theorem dX10_init_155 : decode cX10_init 155 = .ok (.bipush 15, 2) := by decide +kernel
theorem dX10_init_157 : decode cX10_init 157 = .ok (.newarray .int, 2) := by decide +kernel
theorem dX10_init_159 : decode cX10_init 159 = .ok (.putfield 69, 3) := by decide +kernel
theorem dX10_init_162 : decode cX10_init 162 = .ok (.aload_n 0, 1) := by decide +kernel
theorem dX10_init_163 : decode cX10_init 163 = .ok (.bipush 15, 2) := by decide +kernel
theorem dX10_init_165 : decode cX10_init 165 = .ok (.newarray .int, 2) := by decide +kernel
theorem dX10_init_167 : decode cX10_init 167 = .ok (.putfield 72, 3) := by decide +kernel
theorem dX10_init_170 : decode cX10_init 170 = .ok (.aload_n 0, 1) := by decide +kernel
theorem dX10_init_171 : decode cX10_init 171 = .ok (.bipush 40, 2) := by decide +kernel
theorem dX10_init_173 : decode cX10_init 173 = .ok (.newarray .int, 2) := by decide +kernel
theorem dX10_init_175 : decode cX10_init 175 = .ok (.putfield 75, 3) := by decide +kernel
theorem dX10_init_178 : decode cX10_init 178 = .ok (.aload_n 0, 1) := by decide +kernel
theorem dX10_init_179 : decode cX10_init 179 = .ok (.iconst 2, 1) := by decide +kernel
theorem dX10_init_180 : decode cX10_init 180 = .ok (.newarray .boolean, 2) := by decide +kernel
theorem dX10_init_182 : decode cX10_init 182 = .ok (.putfield 78, 3) := by decide +kernel
theorem dX10_init_185 : decode cX10_init 185 = .ok (.aload_n 0, 1) := by decide +kernel
theorem dX10_init_186 : decode cX10_init 186 = .ok (.iconst 0, 1) := by decide +kernel
theorem dX10_init_187 : decode cX10_init 187 = .ok (.putfield 81, 3) := by decide +kernel
theorem dX10_init_190 : decode cX10_init 190 = .ok (.return_, 1) := by decide +kernel
theorem dX10_in_0 : decode cX10_in 0 = .ok (.lload_n 0, 1) := by decide +kernel
theorem dX10_in_1 : decode cX10_in 1 = .ok (.lload_n 2, 1) := by decide +kernel
theorem dX10_in_2 : decode cX10_in 2 = .ok (.lcmp, 1) := by decide +kernel
theorem dX10_in_3 : decode cX10_in 3 = .ok (.ifCond .lt 14, 3) := by decide +kernel
theorem dX10_in_6 : decode cX10_in 6 = .ok (.lload_n 0, 1) := by decide +kernel
theorem dX10_in_7 : decode cX10_in 7 = .ok (.lload 4, 2) := by decide +kernel
theorem dX10_in_9 : decode cX10_in 9 = .ok (.lcmp, 1) := by decide +kernel
theorem dX10_in_10 : decode cX10_in 10 = .ok (.ifCond .gt 7, 3) := by decide +kernel
theorem dX10_in_13 : decode cX10_in 13 = .ok (.iconst 1, 1) := by decide +kernel
theorem dX10_in_14 : decode cX10_in 14 = .ok (.goto 4, 3) := by decide +kernel
theorem dX10_in_17 : decode cX10_in 17 = .ok (.iconst 0, 1) := by decide +kernel
theorem dX10_in_18 : decode cX10_in 18 = .ok (.ireturn, 1) := by decide +kernel
theorem dX10_has_0 : decode cX10_has 0 = .ok (.iload_n 0, 1) := by decide +kernel
theorem dX10_has_1 : decode cX10_has 1 = .ok (.iload_n 1, 1) := by decide +kernel
theorem dX10_has_2 : decode cX10_has 2 = .ok (.ishr, 1) := by decide +kernel
theorem dX10_has_3 : decode cX10_has 3 = .ok (.iconst 1, 1) := by decide +kernel
theorem dX10_has_4 : decode cX10_has 4 = .ok (.iand, 1) := by decide +kernel
theorem dX10_has_5 : decode cX10_has 5 = .ok (.iconst 1, 1) := by decide +kernel
theorem dX10_has_6 : decode cX10_has 6 = .ok (.if_icmp .ne 7, 3) := by decide +kernel
theorem dX10_has_9 : decode cX10_has 9 = .ok (.iconst 1, 1) := by decide +kernel
theorem dX10_has_10 : decode cX10_has 10 = .ok (.goto 4, 3) := by decide +kernel
theorem dX10_has_13 : decode cX10_has 13 = .ok (.iconst 0, 1) := by decide +kernel
theorem dX10_has_14 : decode cX10_has 14 = .ok (.ireturn, 1) := by decide +kernel
theorem dX10_bits_0 : decode cX10_bits 0 = .ok (.iconst 0, 1) := by decide +kernel
theorem dX10_bits_1 : decode cX10_bits 1 = .ok (.istore_n 1, 1) := by decide +kernel
theorem dX10_bits_2 : decode cX10_bits 2 = .ok (.iconst 0, 1) := by decide +kernel
theorem dX10_bits_3 : decode cX10_bits 3 = .ok (.istore_n 2, 1) := by decide +kernel
theorem dX10_bits_4 : decode cX10_bits 4 = .ok (.iload_n 2, 1) := by decide +kernel
theorem dX10_bits_5 : decode cX10_bits 5 = .ok (.bipush 8, 2) := by decide +kernel
theorem dX10_bits_7 : decode cX10_bits 7 = .ok (.if_icmp .ge 17, 3) := by decide +kernel
theorem dX10_bits_10 : decode cX10_bits 10 = .ok (.iload_n 1, 1) := by decide +kernel
theorem dX10_bits_11 : decode cX10_bits 11 = .ok (.iload_n 0, 1) := by decide +kernel
theorem dX10_bits_12 : decode cX10_bits 12 = .ok (.iload_n 2, 1) := by decide +kernel
theorem dX10_bits_13 : decode cX10_bits 13 = .ok (.ishr, 1) := by decide +kernel
theorem dX10_bits_14 : decode cX10_bits 14 = .ok (.iconst 1, 1) := by decide +kernel
theorem dX10_bits_15 : decode cX10_bits 15 = .ok (.iand, 1) := by decide +kernel
theorem dX10_bits_16 : decode cX10_bits 16 = .ok (.iadd, 1) := by decide +kernel
theorem dX10_bits_17 : decode cX10_bits 17 = .ok (.istore_n 1, 1) := by decide +kernel
theorem dX10_bits_18 : decode cX10_bits 18 = .ok (.iinc 2 1, 3) := by decide +kernel
theorem dX10_bits_21 : decode cX10_bits 21 = .ok (.goto (-17), 3) := by decide +kernel
theorem dX10_bits_24 : decode cX10_bits 24 = .ok (.iload_n 1, 1) := by decide +kernel
theorem dX10_bits_25 : decode cX10_bits 25 = .ok (.ireturn, 1) := by decide +kernel
theorem dX10_atMost_0 : decode cX10_atMost 0 = .ok (.iload_n 0, 1) := by decide +kernel
theorem dX10_atMost_1 : decode cX10_atMost 1 = .ok (.iload_n 1, 1) := by decide +kernel
theorem dX10_atMost_2 : decode cX10_atMost 2 = .ok (.if_icmp .ge 7, 3) := by decide +kernel
theorem dX10_atMost_5 : decode cX10_atMost 5 = .ok (.iload_n 0, 1) := by decide +kernel
theorem dX10_atMost_6 : decode cX10_atMost 6 = .ok (.goto 4, 3) := by decide +kernel
theorem dX10_atMost_9 : decode cX10_atMost 9 = .ok (.iload_n 1, 1) := by decide +kernel
theorem dX10_atMost_10 : decode cX10_atMost 10 = .ok (.ireturn, 1) := by decide +kernel
theorem dX10_atLeast_0 : decode cX10_atLeast 0 = .ok (.iload_n 0, 1) := by decide +kernel
theorem dX10_atLeast_1 : decode cX10_atLeast 1 = .ok (.iload_n 1, 1) := by decide +kernel
theorem dX10_atLeast_2 : decode cX10_atLeast 2 = .ok (.if_icmp .le 7, 3) := by decide +kernel
theorem dX10_atLeast_5 : decode cX10_atLeast 5 = .ok (.iload_n 0, 1) := by decide +kernel
theorem dX10_atLeast_6 : decode cX10_atLeast 6 = .ok (.goto 4, 3) := by decide +kernel
theorem dX10_atLeast_9 : decode cX10_atLeast 9 = .ok (.iload_n 1, 1) := by decide +kernel
theorem dX10_atLeast_10 : decode cX10_atLeast 10 = .ok (.ireturn, 1) := by decide +kernel
theorem dX10_isWatcher_0 : decode cX10_isWatcher 0 = .ok (.iload_n 1, 1) := by decide +kernel
theorem dX10_isWatcher_1 : decode cX10_isWatcher 1 = .ok (.i2l, 1) := by decide +kernel
theorem dX10_isWatcher_2 : decode cX10_isWatcher 2 = .ok (.lconst 0, 1) := by decide +kernel
theorem dX10_isWatcher_3 : decode cX10_isWatcher 3 = .ok (.aload_n 0, 1) := by decide +kernel
theorem dX10_isWatcher_4 : decode cX10_isWatcher 4 = .ok (.getfield 84, 3) := by decide +kernel
theorem dX10_isWatcher_7 : decode cX10_isWatcher 7 = .ok (.iconst 1, 1) := by decide +kernel
theorem dX10_isWatcher_8 : decode cX10_isWatcher 8 = .ok (.isub, 1) := by decide +kernel
theorem dX10_isWatcher_9 : decode cX10_isWatcher 9 = .ok (.i2l, 1) := by decide +kernel
theorem dX10_isWatcher_10 : decode cX10_isWatcher 10 = .ok (.invokestatic 87, 3) := by decide +kernel
theorem dX10_isWatcher_13 : decode cX10_isWatcher 13 = .ok (.ireturn, 1) := by decide +kernel
theorem dX10_isSleeper_0 : decode cX10_isSleeper 0 = .ok (.iload_n 1, 1) := by decide +kernel
theorem dX10_isSleeper_1 : decode cX10_isSleeper 1 = .ok (.i2l, 1) := by decide +kernel
theorem dX10_isSleeper_2 : decode cX10_isSleeper 2 = .ok (.lconst 0, 1) := by decide +kernel
theorem dX10_isSleeper_3 : decode cX10_isSleeper 3 = .ok (.aload_n 0, 1) := by decide +kernel
theorem dX10_isSleeper_4 : decode cX10_isSleeper 4 = .ok (.getfield 91, 3) := by decide +kernel
theorem dX10_isSleeper_7 : decode cX10_isSleeper 7 = .ok (.iconst 1, 1) := by decide +kernel
theorem dX10_isSleeper_8 : decode cX10_isSleeper 8 = .ok (.isub, 1) := by decide +kernel
theorem dX10_isSleeper_9 : decode cX10_isSleeper 9 = .ok (.i2l, 1) := by decide +kernel
theorem dX10_isSleeper_10 : decode cX10_isSleeper 10 = .ok (.invokestatic 87, 3) := by decide +kernel
theorem dX10_isSleeper_13 : decode cX10_isSleeper 13 = .ok (.ireturn, 1) := by decide +kernel
theorem dX10_isSet_0 : decode cX10_isSet 0 = .ok (.iload_n 1, 1) := by decide +kernel
theorem dX10_isSet_1 : decode cX10_isSet 1 = .ok (.i2l, 1) := by decide +kernel
theorem dX10_isSet_2 : decode cX10_isSet 2 = .ok (.lconst 0, 1) := by decide +kernel
theorem dX10_isSet_3 : decode cX10_isSet 3 = .ok (.iconst 1, 1) := by decide +kernel
theorem dX10_isSet_4 : decode cX10_isSet 4 = .ok (.aload_n 0, 1) := by decide +kernel
theorem dX10_isSet_5 : decode cX10_isSet 5 = .ok (.getfield 84, 3) := by decide +kernel
theorem dX10_isSet_8 : decode cX10_isSet 8 = .ok (.ishl, 1) := by decide +kernel
theorem dX10_isSet_9 : decode cX10_isSet 9 = .ok (.iconst 1, 1) := by decide +kernel
theorem dX10_isSet_10 : decode cX10_isSet 10 = .ok (.isub, 1) := by decide +kernel
theorem dX10_isSet_11 : decode cX10_isSet 11 = .ok (.i2l, 1) := by decide +kernel
theorem dX10_isSet_12 : decode cX10_isSet 12 = .ok (.invokestatic 87, 3) := by decide +kernel
theorem dX10_isSet_15 : decode cX10_isSet 15 = .ok (.ireturn, 1) := by decide +kernel
theorem dX10_feed_0 : decode cX10_feed 0 = .ok (.iload_n 1, 1) := by decide +kernel
theorem dX10_feed_1 : decode cX10_feed 1 = .ok (.i2l, 1) := by decide +kernel
theorem dX10_feed_2 : decode cX10_feed 2 = .ok (.lconst 0, 1) := by decide +kernel
theorem dX10_feed_3 : decode cX10_feed 3 = .ok (.ldc2_w 94, 3) := by decide +kernel
theorem dX10_feed_6 : decode cX10_feed 6 = .ok (.invokestatic 87, 3) := by decide +kernel
theorem dX10_feed_9 : decode cX10_feed 9 = .ok (.ifCond .ne 6, 3) := by decide +kernel
theorem dX10_feed_12 : decode cX10_feed 12 = .ok (.ldc 96, 2) := by decide +kernel
theorem dX10_feed_14 : decode cX10_feed 14 = .ok (.ireturn, 1) := by decide +kernel
theorem dX10_feed_15 : decode cX10_feed 15 = .ok (.aload_n 0, 1) := by decide +kernel
theorem dX10_feed_16 : decode cX10_feed 16 = .ok (.getfield 97, 3) := by decide +kernel
theorem dX10_feed_19 : decode cX10_feed 19 = .ok (.sipush 220, 3) := by decide +kernel
theorem dX10_feed_22 : decode cX10_feed 22 = .ok (.if_icmp .ne 6, 3) := by decide +kernel
theorem dX10_feed_25 : decode cX10_feed 25 = .ok (.ldc 100, 2) := by decide +kernel
theorem dX10_feed_27 : decode cX10_feed 27 = .ok (.ireturn, 1) := by decide +kernel
theorem dX10_feed_28 : decode cX10_feed 28 = .ok (.aload_n 0, 1) := by decide +kernel
theorem dX10_feed_29 : decode cX10_feed 29 = .ok (.getfield 25, 3) := by decide +kernel
theorem dX10_feed_32 : decode cX10_feed 32 = .ok (.aload_n 0, 1) := by decide +kernel
theorem dX10_feed_33 : decode cX10_feed 33 = .ok (.getfield 97, 3) := by decide +kernel
theorem dX10_feed_36 : decode cX10_feed 36 = .ok (.iload_n 1, 1) := by decide +kernel
theorem dX10_feed_37 : decode cX10_feed 37 = .ok (.iastore, 1) := by decide +kernel
theorem dX10_feed_38 : decode cX10_feed 38 = .ok (.aload_n 0, 1) := by decide +kernel
theorem dX10_feed_39 : decode cX10_feed 39 = .ok (.dup, 1) := by decide +kernel
theorem dX10_feed_40 : decode cX10_feed 40 = .ok (.getfield 97, 3) := by decide +kernel
theorem dX10_feed_43 : decode cX10_feed 43 = .ok (.iconst 1, 1) := by decide +kernel
theorem dX10_feed_44 : decode cX10_feed 44 = .ok (.iadd, 1) := by decide +kernel
theorem dX10_feed_45 : decode cX10_feed 45 = .ok (.putfield 97, 3) := by decide +kernel
theorem dX10_feed_48 : decode cX10_feed 48 = .ok (.aload_n 0, 1) := by decide +kernel
theorem dX10_feed_49 : decode cX10_feed 49 = .ok (.getfield 97, 3) := by decide +kernel
theorem dX10_feed_52 : decode cX10_feed 52 = .ok (.ireturn, 1) := by decide +kernel
theorem dX10_here_0 : decode cX10_here 0 = .ok (.aload_n 0, 1) := by decide +kernel
theorem dX10_here_1 : decode cX10_here 1 = .ok (.getfield 101, 3) := by decide +kernel
theorem dX10_here_4 : decode cX10_here 4 = .ok (.aload_n 0, 1) := by decide +kernel
theorem dX10_here_5 : decode cX10_here 5 = .ok (.getfield 97, 3) := by decide +kernel
theorem dX10_here_8 : decode cX10_here 8 = .ok (.if_icmp .ge 30, 3) := by decide +kernel
theorem dX10_here_11 : decode cX10_here 11 = .ok (.aload_n 0, 1) := by decide +kernel
theorem dX10_here_12 : decode cX10_here 12 = .ok (.getfield 25, 3) := by decide +kernel
theorem dX10_here_15 : decode cX10_here 15 = .ok (.aload_n 0, 1) := by decide +kernel
theorem dX10_here_16 : decode cX10_here 16 = .ok (.getfield 101, 3) := by decide +kernel
theorem dX10_here_19 : decode cX10_here 19 = .ok (.iaload, 1) := by decide +kernel
theorem dX10_here_20 : decode cX10_here 20 = .ok (.bipush 32, 2) := by decide +kernel
theorem dX10_here_22 : decode cX10_here 22 = .ok (.if_icmp .ne 16, 3) := by decide +kernel
theorem dX10_here_25 : decode cX10_here 25 = .ok (.aload_n 0, 1) := by decide +kernel
theorem dX10_here_26 : decode cX10_here 26 = .ok (.dup, 1) := by decide +kernel
theorem dX10_here_27 : decode cX10_here 27 = .ok (.getfield 101, 3) := by decide +kernel
theorem dX10_here_30 : decode cX10_here 30 = .ok (.iconst 1, 1) := by decide +kernel
theorem dX10_here_31 : decode cX10_here 31 = .ok (.iadd, 1) := by decide +kernel
theorem dX10_here_32 : decode cX10_here 32 = .ok (.putfield 101, 3) := by decide +kernel
theorem dX10_here_35 : decode cX10_here 35 = .ok (.goto (-35), 3) := by decide +kernel
theorem dX10_here_38 : decode cX10_here 38 = .ok (.aload_n 0, 1) := by decide +kernel
theorem dX10_here_39 : decode cX10_here 39 = .ok (.getfield 101, 3) := by decide +kernel
theorem dX10_here_42 : decode cX10_here 42 = .ok (.aload_n 0, 1) := by decide +kernel
theorem dX10_here_43 : decode cX10_here 43 = .ok (.getfield 97, 3) := by decide +kernel
theorem dX10_here_46 : decode cX10_here 46 = .ok (.if_icmp .ge 15, 3) := by decide +kernel
theorem dX10_here_49 : decode cX10_here 49 = .ok (.aload_n 0, 1) := by decide +kernel
theorem dX10_here_50 : decode cX10_here 50 = .ok (.getfield 25, 3) := by decide +kernel
theorem dX10_here_53 : decode cX10_here 53 = .ok (.aload_n 0, 1) := by decide +kernel
theorem dX10_here_54 : decode cX10_here 54 = .ok (.getfield 101, 3) := by decide +kernel
theorem dX10_here_57 : decode cX10_here 57 = .ok (.iaload, 1) := by decide +kernel
theorem dX10_here_58 : decode cX10_here 58 = .ok (.goto 4, 3) := by decide +kernel
theorem dX10_here_61 : decode cX10_here 61 = .ok (.iconst (-1), 1) := by decide +kernel
theorem dX10_here_62 : decode cX10_here 62 = .ok (.ireturn, 1) := by decide +kernel
theorem dX10_fails_0 : decode cX10_fails 0 = .ok (.aload_n 0, 1) := by decide +kernel
theorem dX10_fails_1 : decode cX10_fails 1 = .ok (.iload_n 2, 1) := by decide +kernel
theorem dX10_fails_2 : decode cX10_fails 2 = .ok (.putfield 28, 3) := by decide +kernel
theorem dX10_fails_5 : decode cX10_fails 5 = .ok (.iload_n 1, 1) := by decide +kernel
theorem dX10_fails_6 : decode cX10_fails 6 = .ok (.ireturn, 1) := by decide +kernel
theorem dX10_takeNumber_0 : decode cX10_takeNumber 0 = .ok (.aload_n 0, 1) := by decide +kernel
theorem dX10_takeNumber_1 : decode cX10_takeNumber 1 = .ok (.invokevirtual 104, 3) := by decide +kernel
theorem dX10_takeNumber_4 : decode cX10_takeNumber 4 = .ok (.istore_n 3, 1) := by decide +kernel
theorem dX10_takeNumber_5 : decode cX10_takeNumber 5 = .ok (.iload_n 3, 1) := by decide +kernel
theorem dX10_takeNumber_6 : decode cX10_takeNumber 6 = .ok (.i2l, 1) := by decide +kernel
theorem dX10_takeNumber_7 : decode cX10_takeNumber 7 = .ok (.ldc2_w 108, 3) := by decide +kernel
theorem dX10_takeNumber_10 : decode cX10_takeNumber 10 = .ok (.ldc2_w 110, 3) := by decide +kernel
theorem dX10_takeNumber_13 : decode cX10_takeNumber 13 = .ok (.invokestatic 87, 3) := by decide +kernel
theorem dX10_takeNumber_16 : decode cX10_takeNumber 16 = .ok (.ifCond .ne 13, 3) := by decide +kernel
theorem dX10_takeNumber_19 : decode cX10_takeNumber 19 = .ok (.aload_n 0, 1) := by decide +kernel
theorem dX10_takeNumber_20 : decode cX10_takeNumber 20 = .ok (.iconst 1, 1) := by decide +kernel
theorem dX10_takeNumber_21 : decode cX10_takeNumber 21 = .ok (.aload_n 0, 1) := by decide +kernel
theorem dX10_takeNumber_22 : decode cX10_takeNumber 22 = .ok (.getfield 101, 3) := by decide +kernel
theorem dX10_takeNumber_25 : decode cX10_takeNumber 25 = .ok (.invokevirtual 112, 3) := by decide +kernel
theorem dX10_takeNumber_28 : decode cX10_takeNumber 28 = .ok (.ireturn, 1) := by decide +kernel
theorem dX10_takeNumber_29 : decode cX10_takeNumber 29 = .ok (.aload_n 0, 1) := by decide +kernel
theorem dX10_takeNumber_30 : decode cX10_takeNumber 30 = .ok (.aload_n 0, 1) := by decide +kernel
theorem dX10_takeNumber_31 : decode cX10_takeNumber 31 = .ok (.getfield 101, 3) := by decide +kernel
theorem dX10_takeNumber_34 : decode cX10_takeNumber 34 = .ok (.putfield 116, 3) := by decide +kernel
theorem dX10_takeNumber_37 : decode cX10_takeNumber 37 = .ok (.aload_n 0, 1) := by decide +kernel
theorem dX10_takeNumber_38 : decode cX10_takeNumber 38 = .ok (.iconst 0, 1) := by decide +kernel
theorem dX10_takeNumber_39 : decode cX10_takeNumber 39 = .ok (.putfield 119, 3) := by decide +kernel
theorem dX10_takeNumber_42 : decode cX10_takeNumber 42 = .ok (.aload_n 0, 1) := by decide +kernel
theorem dX10_takeNumber_43 : decode cX10_takeNumber 43 = .ok (.getfield 101, 3) := by decide +kernel
theorem dX10_takeNumber_46 : decode cX10_takeNumber 46 = .ok (.aload_n 0, 1) := by decide +kernel
theorem dX10_takeNumber_47 : decode cX10_takeNumber 47 = .ok (.getfield 97, 3) := by decide +kernel
theorem dX10_takeNumber_50 : decode cX10_takeNumber 50 = .ok (.if_icmp .ge 79, 3) := by decide +kernel
theorem dX10_takeNumber_53 : decode cX10_takeNumber 53 = .ok (.aload_n 0, 1) := by decide +kernel
theorem dX10_takeNumber_54 : decode cX10_takeNumber 54 = .ok (.getfield 25, 3) := by decide +kernel
theorem dX10_takeNumber_57 : decode cX10_takeNumber 57 = .ok (.aload_n 0, 1) := by decide +kernel
theorem dX10_takeNumber_58 : decode cX10_takeNumber 58 = .ok (.getfield 101, 3) := by decide +kernel
theorem dX10_takeNumber_61 : decode cX10_takeNumber 61 = .ok (.iaload, 1) := by decide +kernel
theorem dX10_takeNumber_62 : decode cX10_takeNumber 62 = .ok (.i2l, 1) := by decide +kernel
theorem dX10_takeNumber_63 : decode cX10_takeNumber 63 = .ok (.ldc2_w 108, 3) := by decide +kernel
theorem dX10_takeNumber_66 : decode cX10_takeNumber 66 = .ok (.ldc2_w 110, 3) := by decide +kernel
theorem dX10_takeNumber_69 : decode cX10_takeNumber 69 = .ok (.invokestatic 87, 3) := by decide +kernel
theorem dX10_takeNumber_72 : decode cX10_takeNumber 72 = .ok (.ifCond .eq 57, 3) := by decide +kernel
theorem dX10_takeNumber_75 : decode cX10_takeNumber 75 = .ok (.aload_n 0, 1) := by decide +kernel
theorem dX10_takeNumber_76 : decode cX10_takeNumber 76 = .ok (.aload_n 0, 1) := by decide +kernel
theorem dX10_takeNumber_77 : decode cX10_takeNumber 77 = .ok (.getfield 119, 3) := by decide +kernel
theorem dX10_takeNumber_80 : decode cX10_takeNumber 80 = .ok (.sipush 10000, 3) := by decide +kernel
theorem dX10_takeNumber_83 : decode cX10_takeNumber 83 = .ok (.if_icmp .le 10, 3) := by decide +kernel
theorem dX10_takeNumber_86 : decode cX10_takeNumber 86 = .ok (.aload_n 0, 1) := by decide +kernel
theorem dX10_takeNumber_87 : decode cX10_takeNumber 87 = .ok (.getfield 119, 3) := by decide +kernel
theorem dX10_takeNumber_90 : decode cX10_takeNumber 90 = .ok (.goto 23, 3) := by decide +kernel
theorem dX10_takeNumber_93 : decode cX10_takeNumber 93 = .ok (.bipush 10, 2) := by decide +kernel
theorem dX10_takeNumber_95 : decode cX10_takeNumber 95 = .ok (.aload_n 0, 1) := by decide +kernel
theorem dX10_takeNumber_96 : decode cX10_takeNumber 96 = .ok (.getfield 119, 3) := by decide +kernel
theorem dX10_takeNumber_99 : decode cX10_takeNumber 99 = .ok (.imul, 1) := by decide +kernel
theorem dX10_takeNumber_100 : decode cX10_takeNumber 100 = .ok (.aload_n 0, 1) := by decide +kernel
theorem dX10_takeNumber_101 : decode cX10_takeNumber 101 = .ok (.getfield 25, 3) := by decide +kernel
theorem dX10_takeNumber_104 : decode cX10_takeNumber 104 = .ok (.aload_n 0, 1) := by decide +kernel
theorem dX10_takeNumber_105 : decode cX10_takeNumber 105 = .ok (.getfield 101, 3) := by decide +kernel
theorem dX10_takeNumber_108 : decode cX10_takeNumber 108 = .ok (.iaload, 1) := by decide +kernel
theorem dX10_takeNumber_109 : decode cX10_takeNumber 109 = .ok (.iadd, 1) := by decide +kernel
theorem dX10_takeNumber_110 : decode cX10_takeNumber 110 = .ok (.bipush 48, 2) := by decide +kernel
theorem dX10_takeNumber_112 : decode cX10_takeNumber 112 = .ok (.isub, 1) := by decide +kernel
theorem dX10_takeNumber_113 : decode cX10_takeNumber 113 = .ok (.putfield 119, 3) := by decide +kernel
theorem dX10_takeNumber_116 : decode cX10_takeNumber 116 = .ok (.aload_n 0, 1) := by decide +kernel
theorem dX10_takeNumber_117 : decode cX10_takeNumber 117 = .ok (.dup, 1) := by decide +kernel
theorem dX10_takeNumber_118 : decode cX10_takeNumber 118 = .ok (.getfield 101, 3) := by decide +kernel
theorem dX10_takeNumber_121 : decode cX10_takeNumber 121 = .ok (.iconst 1, 1) := by decide +kernel
theorem dX10_takeNumber_122 : decode cX10_takeNumber 122 = .ok (.iadd, 1) := by decide +kernel
theorem dX10_takeNumber_123 : decode cX10_takeNumber 123 = .ok (.putfield 101, 3) := by decide +kernel
theorem dX10_takeNumber_126 : decode cX10_takeNumber 126 = .ok (.goto (-84), 3) := by decide +kernel
theorem dX10_takeNumber_129 : decode cX10_takeNumber 129 = .ok (.aload_n 0, 1) := by decide +kernel
theorem dX10_takeNumber_130 : decode cX10_takeNumber 130 = .ok (.getfield 101, 3) := by decide +kernel
theorem dX10_takeNumber_133 : decode cX10_takeNumber 133 = .ok (.aload_n 0, 1) := by decide +kernel
theorem dX10_takeNumber_134 : decode cX10_takeNumber 134 = .ok (.getfield 116, 3) := by decide +kernel
theorem dX10_takeNumber_137 : decode cX10_takeNumber 137 = .ok (.isub, 1) := by decide +kernel
theorem dX10_takeNumber_138 : decode cX10_takeNumber 138 = .ok (.iconst 3, 1) := by decide +kernel
theorem dX10_takeNumber_139 : decode cX10_takeNumber 139 = .ok (.if_icmp .gt 18, 3) := by decide +kernel
theorem dX10_takeNumber_142 : decode cX10_takeNumber 142 = .ok (.aload_n 0, 1) := by decide +kernel
theorem dX10_takeNumber_143 : decode cX10_takeNumber 143 = .ok (.getfield 119, 3) := by decide +kernel
theorem dX10_takeNumber_146 : decode cX10_takeNumber 146 = .ok (.i2l, 1) := by decide +kernel
theorem dX10_takeNumber_147 : decode cX10_takeNumber 147 = .ok (.iload_n 1, 1) := by decide +kernel
theorem dX10_takeNumber_148 : decode cX10_takeNumber 148 = .ok (.i2l, 1) := by decide +kernel
theorem dX10_takeNumber_149 : decode cX10_takeNumber 149 = .ok (.iload_n 2, 1) := by decide +kernel
theorem dX10_takeNumber_150 : decode cX10_takeNumber 150 = .ok (.i2l, 1) := by decide +kernel
theorem dX10_takeNumber_151 : decode cX10_takeNumber 151 = .ok (.invokestatic 87, 3) := by decide +kernel
theorem dX10_takeNumber_154 : decode cX10_takeNumber 154 = .ok (.ifCond .ne 15, 3) := by decide +kernel
theorem dX10_takeNumber_157 : decode cX10_takeNumber 157 = .ok (.aload_n 0, 1) := by decide +kernel
theorem dX10_takeNumber_158 : decode cX10_takeNumber 158 = .ok (.iconst 2, 1) := by decide +kernel
theorem dX10_takeNumber_159 : decode cX10_takeNumber 159 = .ok (.aload_n 0, 1) := by decide +kernel
theorem dX10_takeNumber_160 : decode cX10_takeNumber 160 = .ok (.getfield 116, 3) := by decide +kernel
theorem dX10_takeNumber_163 : decode cX10_takeNumber 163 = .ok (.invokevirtual 112, 3) := by decide +kernel
theorem dX10_takeNumber_166 : decode cX10_takeNumber 166 = .ok (.goto 4, 3) := by decide +kernel
theorem dX10_takeNumber_169 : decode cX10_takeNumber 169 = .ok (.iconst 0, 1) := by decide +kernel
theorem dX10_takeNumber_170 : decode cX10_takeNumber 170 = .ok (.ireturn, 1) := by decide +kernel
theorem dX10_into_0 : decode cX10_into 0 = .ok (.aload_n 0, 1) := by decide +kernel
theorem dX10_into_1 : decode cX10_into 1 = .ok (.iload_n 3, 1) := by decide +kernel
theorem dX10_into_2 : decode cX10_into 2 = .ok (.iload 4, 2) := by decide +kernel
theorem dX10_into_4 : decode cX10_into 4 = .ok (.invokevirtual 122, 3) := by decide +kernel
theorem dX10_into_7 : decode cX10_into 7 = .ok (.istore 5, 2) := by decide +kernel
theorem dX10_into_9 : decode cX10_into 9 = .ok (.aload_n 1, 1) := by decide +kernel
theorem dX10_into_10 : decode cX10_into 10 = .ok (.iload_n 2, 1) := by decide +kernel
theorem dX10_into_11 : decode cX10_into 11 = .ok (.aload_n 0, 1) := by decide +kernel
theorem dX10_into_12 : decode cX10_into 12 = .ok (.getfield 119, 3) := by decide +kernel
theorem dX10_into_15 : decode cX10_into 15 = .ok (.iastore, 1) := by decide +kernel
theorem dX10_into_16 : decode cX10_into 16 = .ok (.iload 5, 2) := by decide +kernel
theorem dX10_into_18 : decode cX10_into 18 = .ok (.ireturn, 1) := by decide +kernel
theorem dX10_takeContract_0 : decode cX10_takeContract 0 = .ok (.aload_n 0, 1) := by decide +kernel
theorem dX10_takeContract_1 : decode cX10_takeContract 1 = .ok (.aload_n 0, 1) := by decide +kernel
theorem dX10_takeContract_2 : decode cX10_takeContract 2 = .ok (.getfield 32, 3) := by decide +kernel
theorem dX10_takeContract_5 : decode cX10_takeContract 5 = .ok (.iconst 0, 1) := by decide +kernel
theorem dX10_takeContract_6 : decode cX10_takeContract 6 = .ok (.iconst 1, 1) := by decide +kernel
theorem dX10_takeContract_7 : decode cX10_takeContract 7 = .ok (.bipush 6, 2) := by decide +kernel
theorem dX10_takeContract_9 : decode cX10_takeContract 9 = .ok (.invokevirtual 125, 3) := by decide +kernel
theorem dX10_takeContract_12 : decode cX10_takeContract 12 = .ok (.istore_n 1, 1) := by decide +kernel
theorem dX10_takeContract_13 : decode cX10_takeContract 13 = .ok (.iload_n 1, 1) := by decide +kernel
theorem dX10_takeContract_14 : decode cX10_takeContract 14 = .ok (.ifCond .le 7, 3) := by decide +kernel
theorem dX10_takeContract_17 : decode cX10_takeContract 17 = .ok (.iload_n 1, 1) := by decide +kernel
theorem dX10_takeContract_18 : decode cX10_takeContract 18 = .ok (.goto 15, 3) := by decide +kernel
theorem dX10_takeContract_21 : decode cX10_takeContract 21 = .ok (.aload_n 0, 1) := by decide +kernel
theorem dX10_takeContract_22 : decode cX10_takeContract 22 = .ok (.aload_n 0, 1) := by decide +kernel
theorem dX10_takeContract_23 : decode cX10_takeContract 23 = .ok (.getfield 32, 3) := by decide +kernel
theorem dX10_takeContract_26 : decode cX10_takeContract 26 = .ok (.iconst 1, 1) := by decide +kernel
theorem dX10_takeContract_27 : decode cX10_takeContract 27 = .ok (.iconst 0, 1) := by decide +kernel
theorem dX10_takeContract_28 : decode cX10_takeContract 28 = .ok (.bipush 99, 2) := by decide +kernel
theorem dX10_takeContract_30 : decode cX10_takeContract 30 = .ok (.invokevirtual 125, 3) := by decide +kernel
theorem dX10_takeContract_33 : decode cX10_takeContract 33 = .ok (.istore_n 1, 1) := by decide +kernel
theorem dX10_takeContract_34 : decode cX10_takeContract 34 = .ok (.iload_n 1, 1) := by decide +kernel
theorem dX10_takeContract_35 : decode cX10_takeContract 35 = .ok (.ifCond .le 7, 3) := by decide +kernel
theorem dX10_takeContract_38 : decode cX10_takeContract 38 = .ok (.iload_n 1, 1) := by decide +kernel
theorem dX10_takeContract_39 : decode cX10_takeContract 39 = .ok (.goto 15, 3) := by decide +kernel
theorem dX10_takeContract_42 : decode cX10_takeContract 42 = .ok (.aload_n 0, 1) := by decide +kernel
theorem dX10_takeContract_43 : decode cX10_takeContract 43 = .ok (.aload_n 0, 1) := by decide +kernel
theorem dX10_takeContract_44 : decode cX10_takeContract 44 = .ok (.getfield 32, 3) := by decide +kernel
theorem dX10_takeContract_47 : decode cX10_takeContract 47 = .ok (.iconst 2, 1) := by decide +kernel
theorem dX10_takeContract_48 : decode cX10_takeContract 48 = .ok (.iconst 0, 1) := by decide +kernel
theorem dX10_takeContract_49 : decode cX10_takeContract 49 = .ok (.bipush 99, 2) := by decide +kernel
theorem dX10_takeContract_51 : decode cX10_takeContract 51 = .ok (.invokevirtual 125, 3) := by decide +kernel
theorem dX10_takeContract_54 : decode cX10_takeContract 54 = .ok (.istore_n 1, 1) := by decide +kernel
theorem dX10_takeContract_55 : decode cX10_takeContract 55 = .ok (.iload_n 1, 1) := by decide +kernel
theorem dX10_takeContract_56 : decode cX10_takeContract 56 = .ok (.ifCond .le 7, 3) := by decide +kernel
theorem dX10_takeContract_59 : decode cX10_takeContract 59 = .ok (.iload_n 1, 1) := by decide +kernel
theorem dX10_takeContract_60 : decode cX10_takeContract 60 = .ok (.goto 15, 3) := by decide +kernel
theorem dX10_takeContract_63 : decode cX10_takeContract 63 = .ok (.aload_n 0, 1) := by decide +kernel
theorem dX10_takeContract_64 : decode cX10_takeContract 64 = .ok (.aload_n 0, 1) := by decide +kernel
theorem dX10_takeContract_65 : decode cX10_takeContract 65 = .ok (.getfield 32, 3) := by decide +kernel
theorem dX10_takeContract_68 : decode cX10_takeContract 68 = .ok (.iconst 3, 1) := by decide +kernel
theorem dX10_takeContract_69 : decode cX10_takeContract 69 = .ok (.iconst 0, 1) := by decide +kernel
theorem dX10_takeContract_70 : decode cX10_takeContract 70 = .ok (.bipush 20, 2) := by decide +kernel
theorem dX10_takeContract_72 : decode cX10_takeContract 72 = .ok (.invokevirtual 125, 3) := by decide +kernel
theorem dX10_takeContract_75 : decode cX10_takeContract 75 = .ok (.ireturn, 1) := by decide +kernel
theorem dX10_takeWatcher_0 : decode cX10_takeWatcher 0 = .ok (.aload_n 0, 1) := by decide +kernel
theorem dX10_takeWatcher_1 : decode cX10_takeWatcher 1 = .ok (.getfield 129, 3) := by decide +kernel
theorem dX10_takeWatcher_4 : decode cX10_takeWatcher 4 = .ok (.istore_n 1, 1) := by decide +kernel
theorem dX10_takeWatcher_5 : decode cX10_takeWatcher 5 = .ok (.aload_n 0, 1) := by decide +kernel
theorem dX10_takeWatcher_6 : decode cX10_takeWatcher 6 = .ok (.dup, 1) := by decide +kernel
theorem dX10_takeWatcher_7 : decode cX10_takeWatcher 7 = .ok (.getfield 129, 3) := by decide +kernel
theorem dX10_takeWatcher_10 : decode cX10_takeWatcher 10 = .ok (.iconst 1, 1) := by decide +kernel
theorem dX10_takeWatcher_11 : decode cX10_takeWatcher 11 = .ok (.iadd, 1) := by decide +kernel
theorem dX10_takeWatcher_12 : decode cX10_takeWatcher 12 = .ok (.putfield 129, 3) := by decide +kernel
theorem dX10_takeWatcher_15 : decode cX10_takeWatcher 15 = .ok (.aload_n 0, 1) := by decide +kernel
theorem dX10_takeWatcher_16 : decode cX10_takeWatcher 16 = .ok (.aload_n 0, 1) := by decide +kernel
theorem dX10_takeWatcher_17 : decode cX10_takeWatcher 17 = .ok (.getfield 35, 3) := by decide +kernel
theorem dX10_takeWatcher_20 : decode cX10_takeWatcher 20 = .ok (.iload_n 1, 1) := by decide +kernel
theorem dX10_takeWatcher_21 : decode cX10_takeWatcher 21 = .ok (.iconst 0, 1) := by decide +kernel
theorem dX10_takeWatcher_22 : decode cX10_takeWatcher 22 = .ok (.bipush 99, 2) := by decide +kernel
theorem dX10_takeWatcher_24 : decode cX10_takeWatcher 24 = .ok (.invokevirtual 125, 3) := by decide +kernel
theorem dX10_takeWatcher_27 : decode cX10_takeWatcher 27 = .ok (.istore_n 2, 1) := by decide +kernel
theorem dX10_takeWatcher_28 : decode cX10_takeWatcher 28 = .ok (.iload_n 2, 1) := by decide +kernel
theorem dX10_takeWatcher_29 : decode cX10_takeWatcher 29 = .ok (.ifCond .le 7, 3) := by decide +kernel
theorem dX10_takeWatcher_32 : decode cX10_takeWatcher 32 = .ok (.iload_n 2, 1) := by decide +kernel
theorem dX10_takeWatcher_33 : decode cX10_takeWatcher 33 = .ok (.goto 15, 3) := by decide +kernel
theorem dX10_takeWatcher_36 : decode cX10_takeWatcher 36 = .ok (.aload_n 0, 1) := by decide +kernel
theorem dX10_takeWatcher_37 : decode cX10_takeWatcher 37 = .ok (.aload_n 0, 1) := by decide +kernel
theorem dX10_takeWatcher_38 : decode cX10_takeWatcher 38 = .ok (.getfield 38, 3) := by decide +kernel
theorem dX10_takeWatcher_41 : decode cX10_takeWatcher 41 = .ok (.iload_n 1, 1) := by decide +kernel
theorem dX10_takeWatcher_42 : decode cX10_takeWatcher 42 = .ok (.iconst 0, 1) := by decide +kernel
theorem dX10_takeWatcher_43 : decode cX10_takeWatcher 43 = .ok (.bipush 30, 2) := by decide +kernel
theorem dX10_takeWatcher_45 : decode cX10_takeWatcher 45 = .ok (.invokevirtual 125, 3) := by decide +kernel
theorem dX10_takeWatcher_48 : decode cX10_takeWatcher 48 = .ok (.istore_n 2, 1) := by decide +kernel
theorem dX10_takeWatcher_49 : decode cX10_takeWatcher 49 = .ok (.iload_n 2, 1) := by decide +kernel
theorem dX10_takeWatcher_50 : decode cX10_takeWatcher 50 = .ok (.ifCond .le 7, 3) := by decide +kernel
theorem dX10_takeWatcher_53 : decode cX10_takeWatcher 53 = .ok (.iload_n 2, 1) := by decide +kernel
theorem dX10_takeWatcher_54 : decode cX10_takeWatcher 54 = .ok (.goto 15, 3) := by decide +kernel
theorem dX10_takeWatcher_57 : decode cX10_takeWatcher 57 = .ok (.aload_n 0, 1) := by decide +kernel
theorem dX10_takeWatcher_58 : decode cX10_takeWatcher 58 = .ok (.aload_n 0, 1) := by decide +kernel
theorem dX10_takeWatcher_59 : decode cX10_takeWatcher 59 = .ok (.getfield 41, 3) := by decide +kernel
theorem dX10_takeWatcher_62 : decode cX10_takeWatcher 62 = .ok (.iload_n 1, 1) := by decide +kernel
theorem dX10_takeWatcher_63 : decode cX10_takeWatcher 63 = .ok (.iconst 0, 1) := by decide +kernel
theorem dX10_takeWatcher_64 : decode cX10_takeWatcher 64 = .ok (.bipush 30, 2) := by decide +kernel
theorem dX10_takeWatcher_66 : decode cX10_takeWatcher 66 = .ok (.invokevirtual 125, 3) := by decide +kernel
theorem dX10_takeWatcher_69 : decode cX10_takeWatcher 69 = .ok (.istore_n 2, 1) := by decide +kernel
theorem dX10_takeWatcher_70 : decode cX10_takeWatcher 70 = .ok (.iload_n 2, 1) := by decide +kernel
theorem dX10_takeWatcher_71 : decode cX10_takeWatcher 71 = .ok (.ifCond .le 7, 3) := by decide +kernel
theorem dX10_takeWatcher_74 : decode cX10_takeWatcher 74 = .ok (.iload_n 2, 1) := by decide +kernel
theorem dX10_takeWatcher_75 : decode cX10_takeWatcher 75 = .ok (.goto 15, 3) := by decide +kernel
theorem dX10_takeWatcher_78 : decode cX10_takeWatcher 78 = .ok (.aload_n 0, 1) := by decide +kernel
theorem dX10_takeWatcher_79 : decode cX10_takeWatcher 79 = .ok (.aload_n 0, 1) := by decide +kernel
theorem dX10_takeWatcher_80 : decode cX10_takeWatcher 80 = .ok (.getfield 44, 3) := by decide +kernel
theorem dX10_takeWatcher_83 : decode cX10_takeWatcher 83 = .ok (.iload_n 1, 1) := by decide +kernel
theorem dX10_takeWatcher_84 : decode cX10_takeWatcher 84 = .ok (.iconst 0, 1) := by decide +kernel
theorem dX10_takeWatcher_85 : decode cX10_takeWatcher 85 = .ok (.bipush 99, 2) := by decide +kernel
theorem dX10_takeWatcher_87 : decode cX10_takeWatcher 87 = .ok (.invokevirtual 125, 3) := by decide +kernel
theorem dX10_takeWatcher_90 : decode cX10_takeWatcher 90 = .ok (.ireturn, 1) := by decide +kernel
theorem dX10_takeSleeper_0 : decode cX10_takeSleeper 0 = .ok (.aload_n 0, 1) := by decide +kernel
theorem dX10_takeSleeper_1 : decode cX10_takeSleeper 1 = .ok (.getfield 132, 3) := by decide +kernel
theorem dX10_takeSleeper_4 : decode cX10_takeSleeper 4 = .ok (.istore_n 1, 1) := by decide +kernel
theorem dX10_takeSleeper_5 : decode cX10_takeSleeper 5 = .ok (.aload_n 0, 1) := by decide +kernel
theorem dX10_takeSleeper_6 : decode cX10_takeSleeper 6 = .ok (.dup, 1) := by decide +kernel
theorem dX10_takeSleeper_7 : decode cX10_takeSleeper 7 = .ok (.getfield 132, 3) := by decide +kernel
theorem dX10_takeSleeper_10 : decode cX10_takeSleeper 10 = .ok (.iconst 1, 1) := by decide +kernel
theorem dX10_takeSleeper_11 : decode cX10_takeSleeper 11 = .ok (.iadd, 1) := by decide +kernel
theorem dX10_takeSleeper_12 : decode cX10_takeSleeper 12 = .ok (.putfield 132, 3) := by decide +kernel
theorem dX10_takeSleeper_15 : decode cX10_takeSleeper 15 = .ok (.aload_n 0, 1) := by decide +kernel
theorem dX10_takeSleeper_16 : decode cX10_takeSleeper 16 = .ok (.aload_n 0, 1) := by decide +kernel
theorem dX10_takeSleeper_17 : decode cX10_takeSleeper 17 = .ok (.getfield 47, 3) := by decide +kernel
theorem dX10_takeSleeper_20 : decode cX10_takeSleeper 20 = .ok (.iload_n 1, 1) := by decide +kernel
theorem dX10_takeSleeper_21 : decode cX10_takeSleeper 21 = .ok (.iconst 0, 1) := by decide +kernel
theorem dX10_takeSleeper_22 : decode cX10_takeSleeper 22 = .ok (.iconst 1, 1) := by decide +kernel
theorem dX10_takeSleeper_23 : decode cX10_takeSleeper 23 = .ok (.aload_n 0, 1) := by decide +kernel
theorem dX10_takeSleeper_24 : decode cX10_takeSleeper 24 = .ok (.getfield 129, 3) := by decide +kernel
theorem dX10_takeSleeper_27 : decode cX10_takeSleeper 27 = .ok (.ishl, 1) := by decide +kernel
theorem dX10_takeSleeper_28 : decode cX10_takeSleeper 28 = .ok (.iconst 1, 1) := by decide +kernel
theorem dX10_takeSleeper_29 : decode cX10_takeSleeper 29 = .ok (.isub, 1) := by decide +kernel
theorem dX10_takeSleeper_30 : decode cX10_takeSleeper 30 = .ok (.invokevirtual 125, 3) := by decide +kernel
theorem dX10_takeSleeper_33 : decode cX10_takeSleeper 33 = .ok (.ireturn, 1) := by decide +kernel
theorem dX10_takeClause_0 : decode cX10_takeClause 0 = .ok (.aload_n 0, 1) := by decide +kernel
theorem dX10_takeClause_1 : decode cX10_takeClause 1 = .ok (.invokevirtual 104, 3) := by decide +kernel
theorem dX10_takeClause_4 : decode cX10_takeClause 4 = .ok (.istore_n 1, 1) := by decide +kernel
theorem dX10_takeClause_5 : decode cX10_takeClause 5 = .ok (.iload_n 1, 1) := by decide +kernel
theorem dX10_takeClause_6 : decode cX10_takeClause 6 = .ok (.bipush 107, 2) := by decide +kernel
theorem dX10_takeClause_8 : decode cX10_takeClause 8 = .ok (.if_icmp .ne 7, 3) := by decide +kernel
theorem dX10_takeClause_11 : decode cX10_takeClause 11 = .ok (.iconst 0, 1) := by decide +kernel
theorem dX10_takeClause_12 : decode cX10_takeClause 12 = .ok (.goto 24, 3) := by decide +kernel
theorem dX10_takeClause_15 : decode cX10_takeClause 15 = .ok (.iload_n 1, 1) := by decide +kernel
theorem dX10_takeClause_16 : decode cX10_takeClause 16 = .ok (.bipush 112, 2) := by decide +kernel
theorem dX10_takeClause_18 : decode cX10_takeClause 18 = .ok (.if_icmp .ne 7, 3) := by decide +kernel
theorem dX10_takeClause_21 : decode cX10_takeClause 21 = .ok (.iconst 1, 1) := by decide +kernel
theorem dX10_takeClause_22 : decode cX10_takeClause 22 = .ok (.goto 14, 3) := by decide +kernel
theorem dX10_takeClause_25 : decode cX10_takeClause 25 = .ok (.iload_n 1, 1) := by decide +kernel
theorem dX10_takeClause_26 : decode cX10_takeClause 26 = .ok (.bipush 115, 2) := by decide +kernel
theorem dX10_takeClause_28 : decode cX10_takeClause 28 = .ok (.if_icmp .ne 7, 3) := by decide +kernel
theorem dX10_takeClause_31 : decode cX10_takeClause 31 = .ok (.iconst 2, 1) := by decide +kernel
theorem dX10_takeClause_32 : decode cX10_takeClause 32 = .ok (.goto 4, 3) := by decide +kernel
theorem dX10_takeClause_35 : decode cX10_takeClause 35 = .ok (.iconst (-1), 1) := by decide +kernel
theorem dX10_takeClause_36 : decode cX10_takeClause 36 = .ok (.istore_n 2, 1) := by decide +kernel
theorem dX10_takeClause_37 : decode cX10_takeClause 37 = .ok (.iload_n 2, 1) := by decide +kernel
theorem dX10_takeClause_38 : decode cX10_takeClause 38 = .ok (.ifCond .lt 16, 3) := by decide +kernel
theorem dX10_takeClause_41 : decode cX10_takeClause 41 = .ok (.iload_n 2, 1) := by decide +kernel
theorem dX10_takeClause_42 : decode cX10_takeClause 42 = .ok (.ifCond .le 22, 3) := by decide +kernel
theorem dX10_takeClause_45 : decode cX10_takeClause 45 = .ok (.aload_n 0, 1) := by decide +kernel
theorem dX10_takeClause_46 : decode cX10_takeClause 46 = .ok (.getfield 32, 3) := by decide +kernel
theorem dX10_takeClause_49 : decode cX10_takeClause 49 = .ok (.iconst 0, 1) := by decide +kernel
theorem dX10_takeClause_50 : decode cX10_takeClause 50 = .ok (.iaload, 1) := by decide +kernel
theorem dX10_takeClause_51 : decode cX10_takeClause 51 = .ok (.ifCond .ne 13, 3) := by decide +kernel
theorem dX10_takeClause_54 : decode cX10_takeClause 54 = .ok (.aload_n 0, 1) := by decide +kernel
theorem dX10_takeClause_55 : decode cX10_takeClause 55 = .ok (.iconst 1, 1) := by decide +kernel
theorem dX10_takeClause_56 : decode cX10_takeClause 56 = .ok (.aload_n 0, 1) := by decide +kernel
theorem dX10_takeClause_57 : decode cX10_takeClause 57 = .ok (.getfield 101, 3) := by decide +kernel
theorem dX10_takeClause_60 : decode cX10_takeClause 60 = .ok (.invokevirtual 112, 3) := by decide +kernel
theorem dX10_takeClause_63 : decode cX10_takeClause 63 = .ok (.ireturn, 1) := by decide +kernel
theorem dX10_takeClause_64 : decode cX10_takeClause 64 = .ok (.iload_n 2, 1) := by decide +kernel
theorem dX10_takeClause_65 : decode cX10_takeClause 65 = .ok (.ifCond .ne 20, 3) := by decide +kernel
theorem dX10_takeClause_68 : decode cX10_takeClause 68 = .ok (.aload_n 0, 1) := by decide +kernel
theorem dX10_takeClause_69 : decode cX10_takeClause 69 = .ok (.getfield 32, 3) := by decide +kernel
theorem dX10_takeClause_72 : decode cX10_takeClause 72 = .ok (.iconst 0, 1) := by decide +kernel
theorem dX10_takeClause_73 : decode cX10_takeClause 73 = .ok (.iaload, 1) := by decide +kernel
theorem dX10_takeClause_74 : decode cX10_takeClause 74 = .ok (.ifCond .le 7, 3) := by decide +kernel
theorem dX10_takeClause_77 : decode cX10_takeClause 77 = .ok (.iconst 1, 1) := by decide +kernel
theorem dX10_takeClause_78 : decode cX10_takeClause 78 = .ok (.goto 43, 3) := by decide +kernel
theorem dX10_takeClause_81 : decode cX10_takeClause 81 = .ok (.iconst 0, 1) := by decide +kernel
theorem dX10_takeClause_82 : decode cX10_takeClause 82 = .ok (.goto 39, 3) := by decide +kernel
theorem dX10_takeClause_85 : decode cX10_takeClause 85 = .ok (.iload_n 2, 1) := by decide +kernel
theorem dX10_takeClause_86 : decode cX10_takeClause 86 = .ok (.iconst 1, 1) := by decide +kernel
theorem dX10_takeClause_87 : decode cX10_takeClause 87 = .ok (.if_icmp .ne 20, 3) := by decide +kernel
theorem dX10_takeClause_90 : decode cX10_takeClause 90 = .ok (.aload_n 0, 1) := by decide +kernel
theorem dX10_takeClause_91 : decode cX10_takeClause 91 = .ok (.getfield 129, 3) := by decide +kernel
theorem dX10_takeClause_94 : decode cX10_takeClause 94 = .ok (.bipush 6, 2) := by decide +kernel
theorem dX10_takeClause_96 : decode cX10_takeClause 96 = .ok (.if_icmp .ne 7, 3) := by decide +kernel
theorem dX10_takeClause_99 : decode cX10_takeClause 99 = .ok (.iconst 1, 1) := by decide +kernel
theorem dX10_takeClause_100 : decode cX10_takeClause 100 = .ok (.goto 21, 3) := by decide +kernel
theorem dX10_takeClause_103 : decode cX10_takeClause 103 = .ok (.iconst 0, 1) := by decide +kernel
theorem dX10_takeClause_104 : decode cX10_takeClause 104 = .ok (.goto 17, 3) := by decide +kernel
theorem dX10_takeClause_107 : decode cX10_takeClause 107 = .ok (.aload_n 0, 1) := by decide +kernel
theorem dX10_takeClause_108 : decode cX10_takeClause 108 = .ok (.getfield 132, 3) := by decide +kernel
theorem dX10_takeClause_111 : decode cX10_takeClause 111 = .ok (.bipush 8, 2) := by decide +kernel
theorem dX10_takeClause_113 : decode cX10_takeClause 113 = .ok (.if_icmp .ne 7, 3) := by decide +kernel
theorem dX10_takeClause_116 : decode cX10_takeClause 116 = .ok (.iconst 1, 1) := by decide +kernel
theorem dX10_takeClause_117 : decode cX10_takeClause 117 = .ok (.goto 4, 3) := by decide +kernel
theorem dX10_takeClause_120 : decode cX10_takeClause 120 = .ok (.iconst 0, 1) := by decide +kernel
theorem dX10_takeClause_121 : decode cX10_takeClause 121 = .ok (.istore_n 3, 1) := by decide +kernel
theorem dX10_takeClause_122 : decode cX10_takeClause 122 = .ok (.iload_n 3, 1) := by decide +kernel
theorem dX10_takeClause_123 : decode cX10_takeClause 123 = .ok (.ifCond .eq 13, 3) := by decide +kernel
theorem dX10_takeClause_126 : decode cX10_takeClause 126 = .ok (.aload_n 0, 1) := by decide +kernel
theorem dX10_takeClause_127 : decode cX10_takeClause 127 = .ok (.iconst 3, 1) := by decide +kernel
theorem dX10_takeClause_128 : decode cX10_takeClause 128 = .ok (.aload_n 0, 1) := by decide +kernel
theorem dX10_takeClause_129 : decode cX10_takeClause 129 = .ok (.getfield 101, 3) := by decide +kernel
theorem dX10_takeClause_132 : decode cX10_takeClause 132 = .ok (.invokevirtual 112, 3) := by decide +kernel
theorem dX10_takeClause_135 : decode cX10_takeClause 135 = .ok (.ireturn, 1) := by decide +kernel
theorem dX10_takeClause_136 : decode cX10_takeClause 136 = .ok (.aload_n 0, 1) := by decide +kernel
theorem dX10_takeClause_137 : decode cX10_takeClause 137 = .ok (.dup, 1) := by decide +kernel
theorem dX10_takeClause_138 : decode cX10_takeClause 138 = .ok (.getfield 101, 3) := by decide +kernel
theorem dX10_takeClause_141 : decode cX10_takeClause 141 = .ok (.iconst 1, 1) := by decide +kernel
theorem dX10_takeClause_142 : decode cX10_takeClause 142 = .ok (.iadd, 1) := by decide +kernel
theorem dX10_takeClause_143 : decode cX10_takeClause 143 = .ok (.putfield 101, 3) := by decide +kernel
theorem dX10_takeClause_146 : decode cX10_takeClause 146 = .ok (.iload_n 2, 1) := by decide +kernel
theorem dX10_takeClause_147 : decode cX10_takeClause 147 = .ok (.ifCond .ne 10, 3) := by decide +kernel
theorem dX10_takeClause_150 : decode cX10_takeClause 150 = .ok (.aload_n 0, 1) := by decide +kernel
theorem dX10_takeClause_151 : decode cX10_takeClause 151 = .ok (.invokevirtual 135, 3) := by decide +kernel
theorem dX10_takeClause_154 : decode cX10_takeClause 154 = .ok (.goto 19, 3) := by decide +kernel
theorem dX10_takeClause_157 : decode cX10_takeClause 157 = .ok (.iload_n 2, 1) := by decide +kernel
theorem dX10_takeClause_158 : decode cX10_takeClause 158 = .ok (.iconst 1, 1) := by decide +kernel
theorem dX10_takeClause_159 : decode cX10_takeClause 159 = .ok (.if_icmp .ne 10, 3) := by decide +kernel
theorem dX10_takeClause_162 : decode cX10_takeClause 162 = .ok (.aload_n 0, 1) := by decide +kernel
theorem dX10_takeClause_163 : decode cX10_takeClause 163 = .ok (.invokevirtual 138, 3) := by decide +kernel
theorem dX10_takeClause_166 : decode cX10_takeClause 166 = .ok (.goto 7, 3) := by decide +kernel
theorem dX10_takeClause_169 : decode cX10_takeClause 169 = .ok (.aload_n 0, 1) := by decide +kernel
theorem dX10_takeClause_170 : decode cX10_takeClause 170 = .ok (.invokevirtual 141, 3) := by decide +kernel
theorem dX10_takeClause_173 : decode cX10_takeClause 173 = .ok (.istore 4, 2) := by decide +kernel
theorem dX10_takeClause_175 : decode cX10_takeClause 175 = .ok (.iload 4, 2) := by decide +kernel
theorem dX10_takeClause_177 : decode cX10_takeClause 177 = .ok (.ifCond .ne 22, 3) := by decide +kernel
theorem dX10_takeClause_180 : decode cX10_takeClause 180 = .ok (.aload_n 0, 1) := by decide +kernel
theorem dX10_takeClause_181 : decode cX10_takeClause 181 = .ok (.invokevirtual 104, 3) := by decide +kernel
theorem dX10_takeClause_184 : decode cX10_takeClause 184 = .ok (.bipush 59, 2) := by decide +kernel
theorem dX10_takeClause_186 : decode cX10_takeClause 186 = .ok (.if_icmp .eq 13, 3) := by decide +kernel
theorem dX10_takeClause_189 : decode cX10_takeClause 189 = .ok (.aload_n 0, 1) := by decide +kernel
theorem dX10_takeClause_190 : decode cX10_takeClause 190 = .ok (.iconst 1, 1) := by decide +kernel
theorem dX10_takeClause_191 : decode cX10_takeClause 191 = .ok (.aload_n 0, 1) := by decide +kernel
theorem dX10_takeClause_192 : decode cX10_takeClause 192 = .ok (.getfield 101, 3) := by decide +kernel
theorem dX10_takeClause_195 : decode cX10_takeClause 195 = .ok (.invokevirtual 112, 3) := by decide +kernel
theorem dX10_takeClause_198 : decode cX10_takeClause 198 = .ok (.ireturn, 1) := by decide +kernel
theorem dX10_takeClause_199 : decode cX10_takeClause 199 = .ok (.aload_n 0, 1) := by decide +kernel
theorem dX10_takeClause_200 : decode cX10_takeClause 200 = .ok (.dup, 1) := by decide +kernel
theorem dX10_takeClause_201 : decode cX10_takeClause 201 = .ok (.getfield 101, 3) := by decide +kernel
theorem dX10_takeClause_204 : decode cX10_takeClause 204 = .ok (.iconst 1, 1) := by decide +kernel
theorem dX10_takeClause_205 : decode cX10_takeClause 205 = .ok (.iadd, 1) := by decide +kernel
theorem dX10_takeClause_206 : decode cX10_takeClause 206 = .ok (.putfield 101, 3) := by decide +kernel
theorem dX10_takeClause_209 : decode cX10_takeClause 209 = .ok (.iload 4, 2) := by decide +kernel
theorem dX10_takeClause_211 : decode cX10_takeClause 211 = .ok (.ireturn, 1) := by decide +kernel
theorem dX10_takeRead_0 : decode cX10_takeRead 0 = .ok (.aload_n 0, 1) := by decide +kernel
theorem dX10_takeRead_1 : decode cX10_takeRead 1 = .ok (.aload_n 0, 1) := by decide +kernel
theorem dX10_takeRead_2 : decode cX10_takeRead 2 = .ok (.getfield 32, 3) := by decide +kernel
theorem dX10_takeRead_5 : decode cX10_takeRead 5 = .ok (.iconst 0, 1) := by decide +kernel
theorem dX10_takeRead_6 : decode cX10_takeRead 6 = .ok (.iaload, 1) := by decide +kernel
theorem dX10_takeRead_7 : decode cX10_takeRead 7 = .ok (.putfield 81, 3) := by decide +kernel
theorem dX10_takeRead_10 : decode cX10_takeRead 10 = .ok (.aload_n 0, 1) := by decide +kernel
theorem dX10_takeRead_11 : decode cX10_takeRead 11 = .ok (.aload_n 0, 1) := by decide +kernel
theorem dX10_takeRead_12 : decode cX10_takeRead 12 = .ok (.getfield 32, 3) := by decide +kernel
theorem dX10_takeRead_15 : decode cX10_takeRead 15 = .ok (.iconst 1, 1) := by decide +kernel
theorem dX10_takeRead_16 : decode cX10_takeRead 16 = .ok (.iaload, 1) := by decide +kernel
theorem dX10_takeRead_17 : decode cX10_takeRead 17 = .ok (.putfield 144, 3) := by decide +kernel
theorem dX10_takeRead_20 : decode cX10_takeRead 20 = .ok (.aload_n 0, 1) := by decide +kernel
theorem dX10_takeRead_21 : decode cX10_takeRead 21 = .ok (.aload_n 0, 1) := by decide +kernel
theorem dX10_takeRead_22 : decode cX10_takeRead 22 = .ok (.getfield 32, 3) := by decide +kernel
theorem dX10_takeRead_25 : decode cX10_takeRead 25 = .ok (.iconst 2, 1) := by decide +kernel
theorem dX10_takeRead_26 : decode cX10_takeRead 26 = .ok (.iaload, 1) := by decide +kernel
theorem dX10_takeRead_27 : decode cX10_takeRead 27 = .ok (.putfield 147, 3) := by decide +kernel
theorem dX10_takeRead_30 : decode cX10_takeRead 30 = .ok (.aload_n 0, 1) := by decide +kernel
theorem dX10_takeRead_31 : decode cX10_takeRead 31 = .ok (.aload_n 0, 1) := by decide +kernel
theorem dX10_takeRead_32 : decode cX10_takeRead 32 = .ok (.getfield 32, 3) := by decide +kernel
theorem dX10_takeRead_35 : decode cX10_takeRead 35 = .ok (.iconst 3, 1) := by decide +kernel
theorem dX10_takeRead_36 : decode cX10_takeRead 36 = .ok (.iaload, 1) := by decide +kernel
theorem dX10_takeRead_37 : decode cX10_takeRead 37 = .ok (.putfield 150, 3) := by decide +kernel
theorem dX10_takeRead_40 : decode cX10_takeRead 40 = .ok (.aload_n 0, 1) := by decide +kernel
theorem dX10_takeRead_41 : decode cX10_takeRead 41 = .ok (.aload_n 0, 1) := by decide +kernel
theorem dX10_takeRead_42 : decode cX10_takeRead 42 = .ok (.getfield 129, 3) := by decide +kernel
theorem dX10_takeRead_45 : decode cX10_takeRead 45 = .ok (.putfield 84, 3) := by decide +kernel
theorem dX10_takeRead_48 : decode cX10_takeRead 48 = .ok (.aload_n 0, 1) := by decide +kernel
theorem dX10_takeRead_49 : decode cX10_takeRead 49 = .ok (.aload_n 0, 1) := by decide +kernel
theorem dX10_takeRead_50 : decode cX10_takeRead 50 = .ok (.getfield 132, 3) := by decide +kernel
theorem dX10_takeRead_53 : decode cX10_takeRead 53 = .ok (.putfield 91, 3) := by decide +kernel
theorem dX10_takeRead_56 : decode cX10_takeRead 56 = .ok (.iconst 0, 1) := by decide +kernel
theorem dX10_takeRead_57 : decode cX10_takeRead 57 = .ok (.istore_n 1, 1) := by decide +kernel
theorem dX10_takeRead_58 : decode cX10_takeRead 58 = .ok (.iload_n 1, 1) := by decide +kernel
theorem dX10_takeRead_59 : decode cX10_takeRead 59 = .ok (.bipush 19, 2) := by decide +kernel
theorem dX10_takeRead_61 : decode cX10_takeRead 61 = .ok (.if_icmp .ge 16, 3) := by decide +kernel
theorem dX10_takeRead_64 : decode cX10_takeRead 64 = .ok (.aload_n 0, 1) := by decide +kernel
theorem dX10_takeRead_65 : decode cX10_takeRead 65 = .ok (.getfield 22, 3) := by decide +kernel
theorem dX10_takeRead_68 : decode cX10_takeRead 68 = .ok (.iload_n 1, 1) := by decide +kernel
theorem dX10_takeRead_69 : decode cX10_takeRead 69 = .ok (.iconst 0, 1) := by decide +kernel
theorem dX10_takeRead_70 : decode cX10_takeRead 70 = .ok (.iastore, 1) := by decide +kernel
theorem dX10_takeRead_71 : decode cX10_takeRead 71 = .ok (.iinc 1 1, 3) := by decide +kernel
theorem dX10_takeRead_74 : decode cX10_takeRead 74 = .ok (.goto (-16), 3) := by decide +kernel
theorem dX10_takeRead_77 : decode cX10_takeRead 77 = .ok (.iconst 0, 1) := by decide +kernel
theorem dX10_takeRead_78 : decode cX10_takeRead 78 = .ok (.istore_n 1, 1) := by decide +kernel
theorem dX10_takeRead_79 : decode cX10_takeRead 79 = .ok (.iload_n 1, 1) := by decide +kernel
theorem dX10_takeRead_80 : decode cX10_takeRead 80 = .ok (.aload_n 0, 1) := by decide +kernel
theorem dX10_takeRead_81 : decode cX10_takeRead 81 = .ok (.getfield 84, 3) := by decide +kernel
theorem dX10_takeRead_84 : decode cX10_takeRead 84 = .ok (.if_icmp .ge 57, 3) := by decide +kernel
theorem dX10_takeRead_87 : decode cX10_takeRead 87 = .ok (.aload_n 0, 1) := by decide +kernel
theorem dX10_takeRead_88 : decode cX10_takeRead 88 = .ok (.getfield 22, 3) := by decide +kernel
theorem dX10_takeRead_91 : decode cX10_takeRead 91 = .ok (.iload_n 1, 1) := by decide +kernel
theorem dX10_takeRead_92 : decode cX10_takeRead 92 = .ok (.aload_n 0, 1) := by decide +kernel
theorem dX10_takeRead_93 : decode cX10_takeRead 93 = .ok (.getfield 35, 3) := by decide +kernel
theorem dX10_takeRead_96 : decode cX10_takeRead 96 = .ok (.iload_n 1, 1) := by decide +kernel
theorem dX10_takeRead_97 : decode cX10_takeRead 97 = .ok (.iaload, 1) := by decide +kernel
theorem dX10_takeRead_98 : decode cX10_takeRead 98 = .ok (.iastore, 1) := by decide +kernel
theorem dX10_takeRead_99 : decode cX10_takeRead 99 = .ok (.aload_n 0, 1) := by decide +kernel
theorem dX10_takeRead_100 : decode cX10_takeRead 100 = .ok (.getfield 7, 3) := by decide +kernel
theorem dX10_takeRead_103 : decode cX10_takeRead 103 = .ok (.iload_n 1, 1) := by decide +kernel
theorem dX10_takeRead_104 : decode cX10_takeRead 104 = .ok (.aload_n 0, 1) := by decide +kernel
theorem dX10_takeRead_105 : decode cX10_takeRead 105 = .ok (.getfield 38, 3) := by decide +kernel
theorem dX10_takeRead_108 : decode cX10_takeRead 108 = .ok (.iload_n 1, 1) := by decide +kernel
theorem dX10_takeRead_109 : decode cX10_takeRead 109 = .ok (.iaload, 1) := by decide +kernel
theorem dX10_takeRead_110 : decode cX10_takeRead 110 = .ok (.iastore, 1) := by decide +kernel
theorem dX10_takeRead_111 : decode cX10_takeRead 111 = .ok (.aload_n 0, 1) := by decide +kernel
theorem dX10_takeRead_112 : decode cX10_takeRead 112 = .ok (.getfield 13, 3) := by decide +kernel
theorem dX10_takeRead_115 : decode cX10_takeRead 115 = .ok (.iload_n 1, 1) := by decide +kernel
theorem dX10_takeRead_116 : decode cX10_takeRead 116 = .ok (.aload_n 0, 1) := by decide +kernel
theorem dX10_takeRead_117 : decode cX10_takeRead 117 = .ok (.getfield 41, 3) := by decide +kernel
theorem dX10_takeRead_120 : decode cX10_takeRead 120 = .ok (.iload_n 1, 1) := by decide +kernel
theorem dX10_takeRead_121 : decode cX10_takeRead 121 = .ok (.iaload, 1) := by decide +kernel
theorem dX10_takeRead_122 : decode cX10_takeRead 122 = .ok (.iastore, 1) := by decide +kernel
theorem dX10_takeRead_123 : decode cX10_takeRead 123 = .ok (.aload_n 0, 1) := by decide +kernel
theorem dX10_takeRead_124 : decode cX10_takeRead 124 = .ok (.getfield 16, 3) := by decide +kernel
theorem dX10_takeRead_127 : decode cX10_takeRead 127 = .ok (.iload_n 1, 1) := by decide +kernel
theorem dX10_takeRead_128 : decode cX10_takeRead 128 = .ok (.aload_n 0, 1) := by decide +kernel
theorem dX10_takeRead_129 : decode cX10_takeRead 129 = .ok (.getfield 44, 3) := by decide +kernel
theorem dX10_takeRead_132 : decode cX10_takeRead 132 = .ok (.iload_n 1, 1) := by decide +kernel
theorem dX10_takeRead_133 : decode cX10_takeRead 133 = .ok (.iaload, 1) := by decide +kernel
theorem dX10_takeRead_134 : decode cX10_takeRead 134 = .ok (.iastore, 1) := by decide +kernel
theorem dX10_takeRead_135 : decode cX10_takeRead 135 = .ok (.iinc 1 1, 3) := by decide +kernel
theorem dX10_takeRead_138 : decode cX10_takeRead 138 = .ok (.goto (-59), 3) := by decide +kernel
theorem dX10_takeRead_141 : decode cX10_takeRead 141 = .ok (.iconst 0, 1) := by decide +kernel
theorem dX10_takeRead_142 : decode cX10_takeRead 142 = .ok (.istore_n 1, 1) := by decide +kernel
theorem dX10_takeRead_143 : decode cX10_takeRead 143 = .ok (.iload_n 1, 1) := by decide +kernel
theorem dX10_takeRead_144 : decode cX10_takeRead 144 = .ok (.aload_n 0, 1) := by decide +kernel
theorem dX10_takeRead_145 : decode cX10_takeRead 145 = .ok (.getfield 91, 3) := by decide +kernel
theorem dX10_takeRead_148 : decode cX10_takeRead 148 = .ok (.if_icmp .ge 21, 3) := by decide +kernel
theorem dX10_takeRead_151 : decode cX10_takeRead 151 = .ok (.aload_n 0, 1) := by decide +kernel
theorem dX10_takeRead_152 : decode cX10_takeRead 152 = .ok (.getfield 19, 3) := by decide +kernel
theorem dX10_takeRead_155 : decode cX10_takeRead 155 = .ok (.iload_n 1, 1) := by decide +kernel
theorem dX10_takeRead_156 : decode cX10_takeRead 156 = .ok (.aload_n 0, 1) := by decide +kernel
theorem dX10_takeRead_157 : decode cX10_takeRead 157 = .ok (.getfield 47, 3) := by decide +kernel
theorem dX10_takeRead_160 : decode cX10_takeRead 160 = .ok (.iload_n 1, 1) := by decide +kernel
theorem dX10_takeRead_161 : decode cX10_takeRead 161 = .ok (.iaload, 1) := by decide +kernel
theorem dX10_takeRead_162 : decode cX10_takeRead 162 = .ok (.iastore, 1) := by decide +kernel
theorem dX10_takeRead_163 : decode cX10_takeRead 163 = .ok (.iinc 1 1, 3) := by decide +kernel
theorem dX10_takeRead_166 : decode cX10_takeRead 166 = .ok (.goto (-23), 3) := by decide +kernel
theorem dX10_takeRead_169 : decode cX10_takeRead 169 = .ok (.return_, 1) := by decide +kernel
theorem dX10_contract_0 : decode cX10_contract 0 = .ok (.aload_n 0, 1) := by decide +kernel
theorem dX10_contract_1 : decode cX10_contract 1 = .ok (.iconst (-1), 1) := by decide +kernel
theorem dX10_contract_2 : decode cX10_contract 2 = .ok (.putfield 28, 3) := by decide +kernel
theorem dX10_contract_5 : decode cX10_contract 5 = .ok (.aload_n 0, 1) := by decide +kernel
theorem dX10_contract_6 : decode cX10_contract 6 = .ok (.iconst 0, 1) := by decide +kernel
theorem dX10_contract_7 : decode cX10_contract 7 = .ok (.putfield 101, 3) := by decide +kernel
theorem dX10_contract_10 : decode cX10_contract 10 = .ok (.iconst 0, 1) := by decide +kernel
theorem dX10_contract_11 : decode cX10_contract 11 = .ok (.istore_n 1, 1) := by decide +kernel
theorem dX10_contract_12 : decode cX10_contract 12 = .ok (.iload_n 1, 1) := by decide +kernel
theorem dX10_contract_13 : decode cX10_contract 13 = .ok (.iconst 4, 1) := by decide +kernel
theorem dX10_contract_14 : decode cX10_contract 14 = .ok (.if_icmp .ge 16, 3) := by decide +kernel
theorem dX10_contract_17 : decode cX10_contract 17 = .ok (.aload_n 0, 1) := by decide +kernel
theorem dX10_contract_18 : decode cX10_contract 18 = .ok (.getfield 32, 3) := by decide +kernel
theorem dX10_contract_21 : decode cX10_contract 21 = .ok (.iload_n 1, 1) := by decide +kernel
theorem dX10_contract_22 : decode cX10_contract 22 = .ok (.iconst 0, 1) := by decide +kernel
theorem dX10_contract_23 : decode cX10_contract 23 = .ok (.iastore, 1) := by decide +kernel
theorem dX10_contract_24 : decode cX10_contract 24 = .ok (.iinc 1 1, 3) := by decide +kernel
theorem dX10_contract_27 : decode cX10_contract 27 = .ok (.goto (-15), 3) := by decide +kernel
theorem dX10_contract_30 : decode cX10_contract 30 = .ok (.aload_n 0, 1) := by decide +kernel
theorem dX10_contract_31 : decode cX10_contract 31 = .ok (.iconst 0, 1) := by decide +kernel
theorem dX10_contract_32 : decode cX10_contract 32 = .ok (.putfield 129, 3) := by decide +kernel
theorem dX10_contract_35 : decode cX10_contract 35 = .ok (.aload_n 0, 1) := by decide +kernel
theorem dX10_contract_36 : decode cX10_contract 36 = .ok (.iconst 0, 1) := by decide +kernel
theorem dX10_contract_37 : decode cX10_contract 37 = .ok (.putfield 132, 3) := by decide +kernel
theorem dX10_contract_40 : decode cX10_contract 40 = .ok (.iconst 0, 1) := by decide +kernel
theorem dX10_contract_41 : decode cX10_contract 41 = .ok (.istore_n 1, 1) := by decide +kernel
theorem dX10_contract_42 : decode cX10_contract 42 = .ok (.iload_n 1, 1) := by decide +kernel
theorem dX10_contract_43 : decode cX10_contract 43 = .ok (.ifCond .ne 18, 3) := by decide +kernel
theorem dX10_contract_46 : decode cX10_contract 46 = .ok (.aload_n 0, 1) := by decide +kernel
theorem dX10_contract_47 : decode cX10_contract 47 = .ok (.invokevirtual 104, 3) := by decide +kernel
theorem dX10_contract_50 : decode cX10_contract 50 = .ok (.ifCond .lt 11, 3) := by decide +kernel
theorem dX10_contract_53 : decode cX10_contract 53 = .ok (.aload_n 0, 1) := by decide +kernel
theorem dX10_contract_54 : decode cX10_contract 54 = .ok (.invokevirtual 153, 3) := by decide +kernel
theorem dX10_contract_57 : decode cX10_contract 57 = .ok (.istore_n 1, 1) := by decide +kernel
theorem dX10_contract_58 : decode cX10_contract 58 = .ok (.goto (-16), 3) := by decide +kernel
theorem dX10_contract_61 : decode cX10_contract 61 = .ok (.aload_n 0, 1) := by decide +kernel
theorem dX10_contract_62 : decode cX10_contract 62 = .ok (.iconst 0, 1) := by decide +kernel
theorem dX10_contract_63 : decode cX10_contract 63 = .ok (.putfield 97, 3) := by decide +kernel
theorem dX10_contract_66 : decode cX10_contract 66 = .ok (.iload_n 1, 1) := by decide +kernel
theorem dX10_contract_67 : decode cX10_contract 67 = .ok (.ifCond .le 8, 3) := by decide +kernel
theorem dX10_contract_70 : decode cX10_contract 70 = .ok (.bipush (-10), 2) := by decide +kernel
theorem dX10_contract_72 : decode cX10_contract 72 = .ok (.iload_n 1, 1) := by decide +kernel
theorem dX10_contract_73 : decode cX10_contract 73 = .ok (.isub, 1) := by decide +kernel
theorem dX10_contract_74 : decode cX10_contract 74 = .ok (.ireturn, 1) := by decide +kernel
theorem dX10_contract_75 : decode cX10_contract 75 = .ok (.aload_n 0, 1) := by decide +kernel
theorem dX10_contract_76 : decode cX10_contract 76 = .ok (.invokevirtual 156, 3) := by decide +kernel
theorem dX10_contract_79 : decode cX10_contract 79 = .ok (.aload_n 0, 1) := by decide +kernel
theorem dX10_contract_80 : decode cX10_contract 80 = .ok (.iconst 0, 1) := by decide +kernel
theorem dX10_contract_81 : decode cX10_contract 81 = .ok (.putfield 159, 3) := by decide +kernel
theorem dX10_contract_84 : decode cX10_contract 84 = .ok (.aload_n 0, 1) := by decide +kernel
theorem dX10_contract_85 : decode cX10_contract 85 = .ok (.iconst 0, 1) := by decide +kernel
theorem dX10_contract_86 : decode cX10_contract 86 = .ok (.putfield 162, 3) := by decide +kernel
theorem dX10_contract_89 : decode cX10_contract 89 = .ok (.aload_n 0, 1) := by decide +kernel
theorem dX10_contract_90 : decode cX10_contract 90 = .ok (.iconst 0, 1) := by decide +kernel
theorem dX10_contract_91 : decode cX10_contract 91 = .ok (.putfield 165, 3) := by decide +kernel
theorem dX10_contract_94 : decode cX10_contract 94 = .ok (.aload_n 0, 1) := by decide +kernel
theorem dX10_contract_95 : decode cX10_contract 95 = .ok (.getfield 78, 3) := by decide +kernel
theorem dX10_contract_98 : decode cX10_contract 98 = .ok (.iconst 0, 1) := by decide +kernel
theorem dX10_contract_99 : decode cX10_contract 99 = .ok (.iconst 0, 1) := by decide +kernel
theorem dX10_contract_100 : decode cX10_contract 100 = .ok (.bastore, 1) := by decide +kernel
theorem dX10_contract_101 : decode cX10_contract 101 = .ok (.aload_n 0, 1) := by decide +kernel
theorem dX10_contract_102 : decode cX10_contract 102 = .ok (.getfield 78, 3) := by decide +kernel
theorem dX10_contract_105 : decode cX10_contract 105 = .ok (.iconst 1, 1) := by decide +kernel
theorem dX10_contract_106 : decode cX10_contract 106 = .ok (.iconst 0, 1) := by decide +kernel
theorem dX10_contract_107 : decode cX10_contract 107 = .ok (.bastore, 1) := by decide +kernel
theorem dX10_contract_108 : decode cX10_contract 108 = .ok (.aload_n 0, 1) := by decide +kernel
theorem dX10_contract_109 : decode cX10_contract 109 = .ok (.getfield 84, 3) := by decide +kernel
theorem dX10_contract_112 : decode cX10_contract 112 = .ok (.ireturn, 1) := by decide +kernel
theorem dX10_fault_0 : decode cX10_fault 0 = .ok (.aload_n 0, 1) := by decide +kernel
theorem dX10_fault_1 : decode cX10_fault 1 = .ok (.getfield 28, 3) := by decide +kernel
theorem dX10_fault_4 : decode cX10_fault 4 = .ok (.ireturn, 1) := by decide +kernel
theorem dX10_told_0 : decode cX10_told 0 = .ok (.iload_n 1, 1) := by decide +kernel
theorem dX10_told_1 : decode cX10_told 1 = .ok (.tableswitch 189 0 16 #[83, 88, 93, 98, 103, 108, 113, 118, 126, 134, 142, 150, 158, 166, 174, 179, 184], 83) := by decide +kernel
theorem dX10_told_84 : decode cX10_told 84 = .ok (.aload_n 0, 1) := by decide +kernel
theorem dX10_told_85 : decode cX10_told 85 = .ok (.getfield 81, 3) := by decide +kernel
theorem dX10_told_88 : decode cX10_told 88 = .ok (.ireturn, 1) := by decide +kernel
theorem dX10_told_89 : decode cX10_told 89 = .ok (.aload_n 0, 1) := by decide +kernel
theorem dX10_told_90 : decode cX10_told 90 = .ok (.getfield 144, 3) := by decide +kernel
theorem dX10_told_93 : decode cX10_told 93 = .ok (.ireturn, 1) := by decide +kernel
theorem dX10_told_94 : decode cX10_told 94 = .ok (.aload_n 0, 1) := by decide +kernel
theorem dX10_told_95 : decode cX10_told 95 = .ok (.getfield 147, 3) := by decide +kernel
theorem dX10_told_98 : decode cX10_told 98 = .ok (.ireturn, 1) := by decide +kernel
theorem dX10_told_99 : decode cX10_told 99 = .ok (.aload_n 0, 1) := by decide +kernel
theorem dX10_told_100 : decode cX10_told 100 = .ok (.getfield 150, 3) := by decide +kernel
theorem dX10_told_103 : decode cX10_told 103 = .ok (.ireturn, 1) := by decide +kernel
theorem dX10_told_104 : decode cX10_told 104 = .ok (.aload_n 0, 1) := by decide +kernel
theorem dX10_told_105 : decode cX10_told 105 = .ok (.getfield 84, 3) := by decide +kernel
theorem dX10_told_108 : decode cX10_told 108 = .ok (.ireturn, 1) := by decide +kernel
theorem dX10_told_109 : decode cX10_told 109 = .ok (.aload_n 0, 1) := by decide +kernel
theorem dX10_told_110 : decode cX10_told 110 = .ok (.getfield 91, 3) := by decide +kernel
theorem dX10_told_113 : decode cX10_told 113 = .ok (.ireturn, 1) := by decide +kernel
theorem dX10_told_114 : decode cX10_told 114 = .ok (.aload_n 0, 1) := by decide +kernel
theorem dX10_told_115 : decode cX10_told 115 = .ok (.getfield 97, 3) := by decide +kernel
theorem dX10_told_118 : decode cX10_told 118 = .ok (.ireturn, 1) := by decide +kernel
theorem dX10_told_119 : decode cX10_told 119 = .ok (.aload_n 0, 1) := by decide +kernel
theorem dX10_told_120 : decode cX10_told 120 = .ok (.getfield 22, 3) := by decide +kernel
theorem dX10_told_123 : decode cX10_told 123 = .ok (.bipush 12, 2) := by decide +kernel
theorem dX10_told_125 : decode cX10_told 125 = .ok (.iaload, 1) := by decide +kernel
theorem dX10_told_126 : decode cX10_told 126 = .ok (.ireturn, 1) := by decide +kernel
theorem dX10_told_127 : decode cX10_told 127 = .ok (.aload_n 0, 1) := by decide +kernel
theorem dX10_told_128 : decode cX10_told 128 = .ok (.getfield 22, 3) := by decide +kernel
theorem dX10_told_131 : decode cX10_told 131 = .ok (.bipush 13, 2) := by decide +kernel
theorem dX10_told_133 : decode cX10_told 133 = .ok (.iaload, 1) := by decide +kernel
theorem dX10_told_134 : decode cX10_told 134 = .ok (.ireturn, 1) := by decide +kernel
theorem dX10_told_135 : decode cX10_told 135 = .ok (.aload_n 0, 1) := by decide +kernel
theorem dX10_told_136 : decode cX10_told 136 = .ok (.getfield 22, 3) := by decide +kernel
theorem dX10_told_139 : decode cX10_told 139 = .ok (.bipush 14, 2) := by decide +kernel
theorem dX10_told_141 : decode cX10_told 141 = .ok (.iaload, 1) := by decide +kernel
theorem dX10_told_142 : decode cX10_told 142 = .ok (.ireturn, 1) := by decide +kernel
theorem dX10_told_143 : decode cX10_told 143 = .ok (.aload_n 0, 1) := by decide +kernel
theorem dX10_told_144 : decode cX10_told 144 = .ok (.getfield 22, 3) := by decide +kernel
theorem dX10_told_147 : decode cX10_told 147 = .ok (.bipush 15, 2) := by decide +kernel
theorem dX10_told_149 : decode cX10_told 149 = .ok (.iaload, 1) := by decide +kernel
theorem dX10_told_150 : decode cX10_told 150 = .ok (.ireturn, 1) := by decide +kernel
theorem dX10_told_151 : decode cX10_told 151 = .ok (.aload_n 0, 1) := by decide +kernel
theorem dX10_told_152 : decode cX10_told 152 = .ok (.getfield 22, 3) := by decide +kernel
theorem dX10_told_155 : decode cX10_told 155 = .ok (.bipush 16, 2) := by decide +kernel
theorem dX10_told_157 : decode cX10_told 157 = .ok (.iaload, 1) := by decide +kernel
theorem dX10_told_158 : decode cX10_told 158 = .ok (.ireturn, 1) := by decide +kernel
theorem dX10_told_159 : decode cX10_told 159 = .ok (.aload_n 0, 1) := by decide +kernel
theorem dX10_told_160 : decode cX10_told 160 = .ok (.getfield 22, 3) := by decide +kernel
theorem dX10_told_163 : decode cX10_told 163 = .ok (.bipush 17, 2) := by decide +kernel
theorem dX10_told_165 : decode cX10_told 165 = .ok (.iaload, 1) := by decide +kernel
theorem dX10_told_166 : decode cX10_told 166 = .ok (.ireturn, 1) := by decide +kernel
theorem dX10_told_167 : decode cX10_told 167 = .ok (.aload_n 0, 1) := by decide +kernel
theorem dX10_told_168 : decode cX10_told 168 = .ok (.getfield 22, 3) := by decide +kernel
theorem dX10_told_171 : decode cX10_told 171 = .ok (.bipush 18, 2) := by decide +kernel
theorem dX10_told_173 : decode cX10_told 173 = .ok (.iaload, 1) := by decide +kernel
theorem dX10_told_174 : decode cX10_told 174 = .ok (.ireturn, 1) := by decide +kernel
theorem dX10_told_175 : decode cX10_told 175 = .ok (.aload_n 0, 1) := by decide +kernel
theorem dX10_told_176 : decode cX10_told 176 = .ok (.getfield 159, 3) := by decide +kernel
theorem dX10_told_179 : decode cX10_told 179 = .ok (.ireturn, 1) := by decide +kernel
theorem dX10_told_180 : decode cX10_told 180 = .ok (.aload_n 0, 1) := by decide +kernel
theorem dX10_told_181 : decode cX10_told 181 = .ok (.getfield 162, 3) := by decide +kernel
theorem dX10_told_184 : decode cX10_told 184 = .ok (.ireturn, 1) := by decide +kernel
theorem dX10_told_185 : decode cX10_told 185 = .ok (.aload_n 0, 1) := by decide +kernel
theorem dX10_told_186 : decode cX10_told 186 = .ok (.getfield 165, 3) := by decide +kernel
theorem dX10_told_189 : decode cX10_told 189 = .ok (.ireturn, 1) := by decide +kernel
theorem dX10_told_190 : decode cX10_told 190 = .ok (.ldc 96, 2) := by decide +kernel
theorem dX10_told_192 : decode cX10_told 192 = .ok (.ireturn, 1) := by decide +kernel
theorem dX10_watcher_0 : decode cX10_watcher 0 = .ok (.aload_n 0, 1) := by decide +kernel
theorem dX10_watcher_1 : decode cX10_watcher 1 = .ok (.iload_n 1, 1) := by decide +kernel
theorem dX10_watcher_2 : decode cX10_watcher 2 = .ok (.invokevirtual 168, 3) := by decide +kernel
theorem dX10_watcher_5 : decode cX10_watcher 5 = .ok (.ifCond .ne 6, 3) := by decide +kernel
theorem dX10_watcher_8 : decode cX10_watcher 8 = .ok (.ldc 172, 2) := by decide +kernel
theorem dX10_watcher_10 : decode cX10_watcher 10 = .ok (.ireturn, 1) := by decide +kernel
theorem dX10_watcher_11 : decode cX10_watcher 11 = .ok (.iload_n 2, 1) := by decide +kernel
theorem dX10_watcher_12 : decode cX10_watcher 12 = .ok (.tableswitch 74 0 4 #[36, 43, 50, 57, 64], 36) := by decide +kernel
theorem dX10_watcher_48 : decode cX10_watcher 48 = .ok (.aload_n 0, 1) := by decide +kernel
theorem dX10_watcher_49 : decode cX10_watcher 49 = .ok (.getfield 22, 3) := by decide +kernel
theorem dX10_watcher_52 : decode cX10_watcher 52 = .ok (.iload_n 1, 1) := by decide +kernel
theorem dX10_watcher_53 : decode cX10_watcher 53 = .ok (.iaload, 1) := by decide +kernel
theorem dX10_watcher_54 : decode cX10_watcher 54 = .ok (.ireturn, 1) := by decide +kernel
theorem dX10_watcher_55 : decode cX10_watcher 55 = .ok (.aload_n 0, 1) := by decide +kernel
theorem dX10_watcher_56 : decode cX10_watcher 56 = .ok (.getfield 7, 3) := by decide +kernel
theorem dX10_watcher_59 : decode cX10_watcher 59 = .ok (.iload_n 1, 1) := by decide +kernel
theorem dX10_watcher_60 : decode cX10_watcher 60 = .ok (.iaload, 1) := by decide +kernel
theorem dX10_watcher_61 : decode cX10_watcher 61 = .ok (.ireturn, 1) := by decide +kernel
theorem dX10_watcher_62 : decode cX10_watcher 62 = .ok (.aload_n 0, 1) := by decide +kernel
theorem dX10_watcher_63 : decode cX10_watcher 63 = .ok (.getfield 13, 3) := by decide +kernel
theorem dX10_watcher_66 : decode cX10_watcher 66 = .ok (.iload_n 1, 1) := by decide +kernel
theorem dX10_watcher_67 : decode cX10_watcher 67 = .ok (.iaload, 1) := by decide +kernel
theorem dX10_watcher_68 : decode cX10_watcher 68 = .ok (.ireturn, 1) := by decide +kernel
theorem dX10_watcher_69 : decode cX10_watcher 69 = .ok (.aload_n 0, 1) := by decide +kernel
theorem dX10_watcher_70 : decode cX10_watcher 70 = .ok (.getfield 16, 3) := by decide +kernel
theorem dX10_watcher_73 : decode cX10_watcher 73 = .ok (.iload_n 1, 1) := by decide +kernel
theorem dX10_watcher_74 : decode cX10_watcher 74 = .ok (.iaload, 1) := by decide +kernel
theorem dX10_watcher_75 : decode cX10_watcher 75 = .ok (.ireturn, 1) := by decide +kernel
theorem dX10_watcher_76 : decode cX10_watcher 76 = .ok (.aload_n 0, 1) := by decide +kernel
theorem dX10_watcher_77 : decode cX10_watcher 77 = .ok (.getfield 22, 3) := by decide +kernel
theorem dX10_watcher_80 : decode cX10_watcher 80 = .ok (.bipush 6, 2) := by decide +kernel
theorem dX10_watcher_82 : decode cX10_watcher 82 = .ok (.iload_n 1, 1) := by decide +kernel
theorem dX10_watcher_83 : decode cX10_watcher 83 = .ok (.iadd, 1) := by decide +kernel
theorem dX10_watcher_84 : decode cX10_watcher 84 = .ok (.iaload, 1) := by decide +kernel
theorem dX10_watcher_85 : decode cX10_watcher 85 = .ok (.ireturn, 1) := by decide +kernel
theorem dX10_watcher_86 : decode cX10_watcher 86 = .ok (.ldc 96, 2) := by decide +kernel
theorem dX10_watcher_88 : decode cX10_watcher 88 = .ok (.ireturn, 1) := by decide +kernel
theorem dX10_sleeper_0 : decode cX10_sleeper 0 = .ok (.aload_n 0, 1) := by decide +kernel
theorem dX10_sleeper_1 : decode cX10_sleeper 1 = .ok (.iload_n 1, 1) := by decide +kernel
theorem dX10_sleeper_2 : decode cX10_sleeper 2 = .ok (.invokevirtual 173, 3) := by decide +kernel
theorem dX10_sleeper_5 : decode cX10_sleeper 5 = .ok (.ifCond .eq 12, 3) := by decide +kernel
theorem dX10_sleeper_8 : decode cX10_sleeper 8 = .ok (.aload_n 0, 1) := by decide +kernel
theorem dX10_sleeper_9 : decode cX10_sleeper 9 = .ok (.getfield 19, 3) := by decide +kernel
theorem dX10_sleeper_12 : decode cX10_sleeper 12 = .ok (.iload_n 1, 1) := by decide +kernel
theorem dX10_sleeper_13 : decode cX10_sleeper 13 = .ok (.iaload, 1) := by decide +kernel
theorem dX10_sleeper_14 : decode cX10_sleeper 14 = .ok (.goto 5, 3) := by decide +kernel
theorem dX10_sleeper_17 : decode cX10_sleeper 17 = .ok (.ldc 172, 2) := by decide +kernel
theorem dX10_sleeper_19 : decode cX10_sleeper 19 = .ok (.ireturn, 1) := by decide +kernel
theorem dX10_tire_0 : decode cX10_tire 0 = .ok (.iconst 0, 1) := by decide +kernel
theorem dX10_tire_1 : decode cX10_tire 1 = .ok (.istore_n 3, 1) := by decide +kernel
theorem dX10_tire_2 : decode cX10_tire 2 = .ok (.iconst 0, 1) := by decide +kernel
theorem dX10_tire_3 : decode cX10_tire 3 = .ok (.istore 4, 2) := by decide +kernel
theorem dX10_tire_5 : decode cX10_tire 5 = .ok (.iload 4, 2) := by decide +kernel
theorem dX10_tire_7 : decode cX10_tire 7 = .ok (.aload_n 0, 1) := by decide +kernel
theorem dX10_tire_8 : decode cX10_tire 8 = .ok (.getfield 84, 3) := by decide +kernel
theorem dX10_tire_11 : decode cX10_tire 11 = .ok (.if_icmp .ge 130, 3) := by decide +kernel
theorem dX10_tire_14 : decode cX10_tire 14 = .ok (.iload_n 1, 1) := by decide +kernel
theorem dX10_tire_15 : decode cX10_tire 15 = .ok (.iload 4, 2) := by decide +kernel
theorem dX10_tire_17 : decode cX10_tire 17 = .ok (.invokestatic 176, 3) := by decide +kernel
theorem dX10_tire_20 : decode cX10_tire 20 = .ok (.ifCond .eq 89, 3) := by decide +kernel
theorem dX10_tire_23 : decode cX10_tire 23 = .ok (.iload_n 2, 1) := by decide +kernel
theorem dX10_tire_24 : decode cX10_tire 24 = .ok (.ifCond .eq 22, 3) := by decide +kernel
theorem dX10_tire_27 : decode cX10_tire 27 = .ok (.aload_n 0, 1) := by decide +kernel
theorem dX10_tire_28 : decode cX10_tire 28 = .ok (.getfield 22, 3) := by decide +kernel
theorem dX10_tire_31 : decode cX10_tire 31 = .ok (.iload 4, 2) := by decide +kernel
theorem dX10_tire_33 : decode cX10_tire 33 = .ok (.iaload, 1) := by decide +kernel
theorem dX10_tire_34 : decode cX10_tire 34 = .ok (.aload_n 0, 1) := by decide +kernel
theorem dX10_tire_35 : decode cX10_tire 35 = .ok (.getfield 150, 3) := by decide +kernel
theorem dX10_tire_38 : decode cX10_tire 38 = .ok (.isub, 1) := by decide +kernel
theorem dX10_tire_39 : decode cX10_tire 39 = .ok (.iconst 0, 1) := by decide +kernel
theorem dX10_tire_40 : decode cX10_tire 40 = .ok (.invokestatic 180, 3) := by decide +kernel
theorem dX10_tire_43 : decode cX10_tire 43 = .ok (.goto 10, 3) := by decide +kernel
theorem dX10_tire_46 : decode cX10_tire 46 = .ok (.aload_n 0, 1) := by decide +kernel
theorem dX10_tire_47 : decode cX10_tire 47 = .ok (.getfield 22, 3) := by decide +kernel
theorem dX10_tire_50 : decode cX10_tire 50 = .ok (.iload 4, 2) := by decide +kernel
theorem dX10_tire_52 : decode cX10_tire 52 = .ok (.iaload, 1) := by decide +kernel
theorem dX10_tire_53 : decode cX10_tire 53 = .ok (.istore 5, 2) := by decide +kernel
theorem dX10_tire_55 : decode cX10_tire 55 = .ok (.aload_n 0, 1) := by decide +kernel
theorem dX10_tire_56 : decode cX10_tire 56 = .ok (.getfield 22, 3) := by decide +kernel
theorem dX10_tire_59 : decode cX10_tire 59 = .ok (.iload 4, 2) := by decide +kernel
theorem dX10_tire_61 : decode cX10_tire 61 = .ok (.iload 5, 2) := by decide +kernel
theorem dX10_tire_63 : decode cX10_tire 63 = .ok (.aload_n 0, 1) := by decide +kernel
theorem dX10_tire_64 : decode cX10_tire 64 = .ok (.getfield 7, 3) := by decide +kernel
theorem dX10_tire_67 : decode cX10_tire 67 = .ok (.iload 4, 2) := by decide +kernel
theorem dX10_tire_69 : decode cX10_tire 69 = .ok (.iaload, 1) := by decide +kernel
theorem dX10_tire_70 : decode cX10_tire 70 = .ok (.iadd, 1) := by decide +kernel
theorem dX10_tire_71 : decode cX10_tire 71 = .ok (.sipush 199, 3) := by decide +kernel
theorem dX10_tire_74 : decode cX10_tire 74 = .ok (.invokestatic 183, 3) := by decide +kernel
theorem dX10_tire_77 : decode cX10_tire 77 = .ok (.iastore, 1) := by decide +kernel
theorem dX10_tire_78 : decode cX10_tire 78 = .ok (.iload_n 3, 1) := by decide +kernel
theorem dX10_tire_79 : decode cX10_tire 79 = .ok (.aload_n 0, 1) := by decide +kernel
theorem dX10_tire_80 : decode cX10_tire 80 = .ok (.getfield 22, 3) := by decide +kernel
theorem dX10_tire_83 : decode cX10_tire 83 = .ok (.iload 4, 2) := by decide +kernel
theorem dX10_tire_85 : decode cX10_tire 85 = .ok (.iaload, 1) := by decide +kernel
theorem dX10_tire_86 : decode cX10_tire 86 = .ok (.aload_n 0, 1) := by decide +kernel
theorem dX10_tire_87 : decode cX10_tire 87 = .ok (.getfield 16, 3) := by decide +kernel
theorem dX10_tire_90 : decode cX10_tire 90 = .ok (.iload 4, 2) := by decide +kernel
theorem dX10_tire_92 : decode cX10_tire 92 = .ok (.iaload, 1) := by decide +kernel
theorem dX10_tire_93 : decode cX10_tire 93 = .ok (.if_icmp .le 10, 3) := by decide +kernel
theorem dX10_tire_96 : decode cX10_tire 96 = .ok (.iconst 1, 1) := by decide +kernel
theorem dX10_tire_97 : decode cX10_tire 97 = .ok (.iload 4, 2) := by decide +kernel
theorem dX10_tire_99 : decode cX10_tire 99 = .ok (.ishl, 1) := by decide +kernel
theorem dX10_tire_100 : decode cX10_tire 100 = .ok (.goto 4, 3) := by decide +kernel
theorem dX10_tire_103 : decode cX10_tire 103 = .ok (.iconst 0, 1) := by decide +kernel
theorem dX10_tire_104 : decode cX10_tire 104 = .ok (.ior, 1) := by decide +kernel
theorem dX10_tire_105 : decode cX10_tire 105 = .ok (.istore_n 3, 1) := by decide +kernel
theorem dX10_tire_106 : decode cX10_tire 106 = .ok (.goto 29, 3) := by decide +kernel
theorem dX10_tire_109 : decode cX10_tire 109 = .ok (.aload_n 0, 1) := by decide +kernel
theorem dX10_tire_110 : decode cX10_tire 110 = .ok (.getfield 22, 3) := by decide +kernel
theorem dX10_tire_113 : decode cX10_tire 113 = .ok (.iload 4, 2) := by decide +kernel
theorem dX10_tire_115 : decode cX10_tire 115 = .ok (.aload_n 0, 1) := by decide +kernel
theorem dX10_tire_116 : decode cX10_tire 116 = .ok (.getfield 22, 3) := by decide +kernel
theorem dX10_tire_119 : decode cX10_tire 119 = .ok (.iload 4, 2) := by decide +kernel
theorem dX10_tire_121 : decode cX10_tire 121 = .ok (.iaload, 1) := by decide +kernel
theorem dX10_tire_122 : decode cX10_tire 122 = .ok (.aload_n 0, 1) := by decide +kernel
theorem dX10_tire_123 : decode cX10_tire 123 = .ok (.getfield 13, 3) := by decide +kernel
theorem dX10_tire_126 : decode cX10_tire 126 = .ok (.iload 4, 2) := by decide +kernel
theorem dX10_tire_128 : decode cX10_tire 128 = .ok (.iaload, 1) := by decide +kernel
theorem dX10_tire_129 : decode cX10_tire 129 = .ok (.isub, 1) := by decide +kernel
theorem dX10_tire_130 : decode cX10_tire 130 = .ok (.iconst 0, 1) := by decide +kernel
theorem dX10_tire_131 : decode cX10_tire 131 = .ok (.invokestatic 180, 3) := by decide +kernel
theorem dX10_tire_134 : decode cX10_tire 134 = .ok (.iastore, 1) := by decide +kernel
theorem dX10_tire_135 : decode cX10_tire 135 = .ok (.iinc 4 1, 3) := by decide +kernel
theorem dX10_tire_138 : decode cX10_tire 138 = .ok (.goto (-133), 3) := by decide +kernel
theorem dX10_tire_141 : decode cX10_tire 141 = .ok (.iload_n 3, 1) := by decide +kernel
theorem dX10_tire_142 : decode cX10_tire 142 = .ok (.ireturn, 1) := by decide +kernel
theorem dX10_sitsUp_0 : decode cX10_sitsUp 0 = .ok (.iload_n 0, 1) := by decide +kernel
theorem dX10_sitsUp_1 : decode cX10_sitsUp 1 = .ok (.iload_n 1, 1) := by decide +kernel
theorem dX10_sitsUp_2 : decode cX10_sitsUp 2 = .ok (.iand, 1) := by decide +kernel
theorem dX10_sitsUp_3 : decode cX10_sitsUp 3 = .ok (.istore_n 3, 1) := by decide +kernel
theorem dX10_sitsUp_4 : decode cX10_sitsUp 4 = .ok (.iload_n 3, 1) := by decide +kernel
theorem dX10_sitsUp_5 : decode cX10_sitsUp 5 = .ok (.ifCond .ne 19, 3) := by decide +kernel
theorem dX10_sitsUp_8 : decode cX10_sitsUp 8 = .ok (.iload_n 1, 1) := by decide +kernel
theorem dX10_sitsUp_9 : decode cX10_sitsUp 9 = .ok (.iload_n 2, 1) := by decide +kernel
theorem dX10_sitsUp_10 : decode cX10_sitsUp 10 = .ok (.iconst (-1), 1) := by decide +kernel
theorem dX10_sitsUp_11 : decode cX10_sitsUp 11 = .ok (.ixor, 1) := by decide +kernel
theorem dX10_sitsUp_12 : decode cX10_sitsUp 12 = .ok (.iand, 1) := by decide +kernel
theorem dX10_sitsUp_13 : decode cX10_sitsUp 13 = .ok (.ifCond .ne 7, 3) := by decide +kernel
theorem dX10_sitsUp_16 : decode cX10_sitsUp 16 = .ok (.iconst 1, 1) := by decide +kernel
theorem dX10_sitsUp_17 : decode cX10_sitsUp 17 = .ok (.goto 20, 3) := by decide +kernel
theorem dX10_sitsUp_20 : decode cX10_sitsUp 20 = .ok (.iconst 0, 1) := by decide +kernel
theorem dX10_sitsUp_21 : decode cX10_sitsUp 21 = .ok (.goto 16, 3) := by decide +kernel
theorem dX10_sitsUp_24 : decode cX10_sitsUp 24 = .ok (.iload_n 3, 1) := by decide +kernel
theorem dX10_sitsUp_25 : decode cX10_sitsUp 25 = .ok (.iload_n 2, 1) := by decide +kernel
theorem dX10_sitsUp_26 : decode cX10_sitsUp 26 = .ok (.iconst (-1), 1) := by decide +kernel
theorem dX10_sitsUp_27 : decode cX10_sitsUp 27 = .ok (.ixor, 1) := by decide +kernel
theorem dX10_sitsUp_28 : decode cX10_sitsUp 28 = .ok (.iand, 1) := by decide +kernel
theorem dX10_sitsUp_29 : decode cX10_sitsUp 29 = .ok (.ifCond .ne 7, 3) := by decide +kernel
theorem dX10_sitsUp_32 : decode cX10_sitsUp 32 = .ok (.iconst 1, 1) := by decide +kernel
theorem dX10_sitsUp_33 : decode cX10_sitsUp 33 = .ok (.goto 4, 3) := by decide +kernel
theorem dX10_sitsUp_36 : decode cX10_sitsUp 36 = .ok (.iconst 0, 1) := by decide +kernel
theorem dX10_sitsUp_37 : decode cX10_sitsUp 37 = .ok (.ireturn, 1) := by decide +kernel
theorem dX10_passHour_0 : decode cX10_passHour 0 = .ok (.aload_n 0, 1) := by decide +kernel
theorem dX10_passHour_1 : decode cX10_passHour 1 = .ok (.getfield 22, 3) := by decide +kernel
theorem dX10_passHour_4 : decode cX10_passHour 4 = .ok (.bipush 12, 2) := by decide +kernel
theorem dX10_passHour_6 : decode cX10_passHour 6 = .ok (.dup2, 1) := by decide +kernel
theorem dX10_passHour_7 : decode cX10_passHour 7 = .ok (.iaload, 1) := by decide +kernel
theorem dX10_passHour_8 : decode cX10_passHour 8 = .ok (.iconst 1, 1) := by decide +kernel
theorem dX10_passHour_9 : decode cX10_passHour 9 = .ok (.iadd, 1) := by decide +kernel
theorem dX10_passHour_10 : decode cX10_passHour 10 = .ok (.iastore, 1) := by decide +kernel
theorem dX10_passHour_11 : decode cX10_passHour 11 = .ok (.aload_n 0, 1) := by decide +kernel
theorem dX10_passHour_12 : decode cX10_passHour 12 = .ok (.getfield 22, 3) := by decide +kernel
theorem dX10_passHour_15 : decode cX10_passHour 15 = .ok (.bipush 18, 2) := by decide +kernel
theorem dX10_passHour_17 : decode cX10_passHour 17 = .ok (.aload_n 0, 1) := by decide +kernel
theorem dX10_passHour_18 : decode cX10_passHour 18 = .ok (.getfield 22, 3) := by decide +kernel
theorem dX10_passHour_21 : decode cX10_passHour 21 = .ok (.bipush 12, 2) := by decide +kernel
theorem dX10_passHour_23 : decode cX10_passHour 23 = .ok (.iaload, 1) := by decide +kernel
theorem dX10_passHour_24 : decode cX10_passHour 24 = .ok (.aload_n 0, 1) := by decide +kernel
theorem dX10_passHour_25 : decode cX10_passHour 25 = .ok (.getfield 81, 3) := by decide +kernel
theorem dX10_passHour_28 : decode cX10_passHour 28 = .ok (.irem, 1) := by decide +kernel
theorem dX10_passHour_29 : decode cX10_passHour 29 = .ok (.ifCond .ne 7, 3) := by decide +kernel
theorem dX10_passHour_32 : decode cX10_passHour 32 = .ok (.iconst 0, 1) := by decide +kernel
theorem dX10_passHour_33 : decode cX10_passHour 33 = .ok (.goto 10, 3) := by decide +kernel
theorem dX10_passHour_36 : decode cX10_passHour 36 = .ok (.aload_n 0, 1) := by decide +kernel
theorem dX10_passHour_37 : decode cX10_passHour 37 = .ok (.getfield 22, 3) := by decide +kernel
theorem dX10_passHour_40 : decode cX10_passHour 40 = .ok (.bipush 18, 2) := by decide +kernel
theorem dX10_passHour_42 : decode cX10_passHour 42 = .ok (.iaload, 1) := by decide +kernel
theorem dX10_passHour_43 : decode cX10_passHour 43 = .ok (.iastore, 1) := by decide +kernel
theorem dX10_passHour_44 : decode cX10_passHour 44 = .ok (.return_, 1) := by decide +kernel
theorem dX10_hourBy_0 : decode cX10_hourBy 0 = .ok (.aload_n 0, 1) := by decide +kernel
theorem dX10_hourBy_1 : decode cX10_hourBy 1 = .ok (.iload_n 1, 1) := by decide +kernel
theorem dX10_hourBy_2 : decode cX10_hourBy 2 = .ok (.iload_n 2, 1) := by decide +kernel
theorem dX10_hourBy_3 : decode cX10_hourBy 3 = .ok (.invokevirtual 186, 3) := by decide +kernel
theorem dX10_hourBy_6 : decode cX10_hourBy 6 = .ok (.istore_n 3, 1) := by decide +kernel
theorem dX10_hourBy_7 : decode cX10_hourBy 7 = .ok (.iload_n 1, 1) := by decide +kernel
theorem dX10_hourBy_8 : decode cX10_hourBy 8 = .ok (.iload_n 3, 1) := by decide +kernel
theorem dX10_hourBy_9 : decode cX10_hourBy 9 = .ok (.iconst (-1), 1) := by decide +kernel
theorem dX10_hourBy_10 : decode cX10_hourBy 10 = .ok (.ixor, 1) := by decide +kernel
theorem dX10_hourBy_11 : decode cX10_hourBy 11 = .ok (.iand, 1) := by decide +kernel
theorem dX10_hourBy_12 : decode cX10_hourBy 12 = .ok (.ifCond .eq 7, 3) := by decide +kernel
theorem dX10_hourBy_15 : decode cX10_hourBy 15 = .ok (.iconst 1, 1) := by decide +kernel
theorem dX10_hourBy_16 : decode cX10_hourBy 16 = .ok (.goto 4, 3) := by decide +kernel
theorem dX10_hourBy_19 : decode cX10_hourBy 19 = .ok (.iconst 0, 1) := by decide +kernel
theorem dX10_hourBy_20 : decode cX10_hourBy 20 = .ok (.istore 4, 2) := by decide +kernel
theorem dX10_hourBy_22 : decode cX10_hourBy 22 = .ok (.iconst 0, 1) := by decide +kernel
theorem dX10_hourBy_23 : decode cX10_hourBy 23 = .ok (.istore 5, 2) := by decide +kernel
theorem dX10_hourBy_25 : decode cX10_hourBy 25 = .ok (.iconst 0, 1) := by decide +kernel
theorem dX10_hourBy_26 : decode cX10_hourBy 26 = .ok (.istore 6, 2) := by decide +kernel
theorem dX10_hourBy_28 : decode cX10_hourBy 28 = .ok (.iload 6, 2) := by decide +kernel
theorem dX10_hourBy_30 : decode cX10_hourBy 30 = .ok (.aload_n 0, 1) := by decide +kernel
theorem dX10_hourBy_31 : decode cX10_hourBy 31 = .ok (.getfield 91, 3) := by decide +kernel
theorem dX10_hourBy_34 : decode cX10_hourBy 34 = .ok (.if_icmp .ge 37, 3) := by decide +kernel
theorem dX10_hourBy_37 : decode cX10_hourBy 37 = .ok (.iload 5, 2) := by decide +kernel
theorem dX10_hourBy_39 : decode cX10_hourBy 39 = .ok (.aload_n 0, 1) := by decide +kernel
theorem dX10_hourBy_40 : decode cX10_hourBy 40 = .ok (.getfield 19, 3) := by decide +kernel
theorem dX10_hourBy_43 : decode cX10_hourBy 43 = .ok (.iload 6, 2) := by decide +kernel
theorem dX10_hourBy_45 : decode cX10_hourBy 45 = .ok (.iaload, 1) := by decide +kernel
theorem dX10_hourBy_46 : decode cX10_hourBy 46 = .ok (.iload_n 1, 1) := by decide +kernel
theorem dX10_hourBy_47 : decode cX10_hourBy 47 = .ok (.iload_n 3, 1) := by decide +kernel
theorem dX10_hourBy_48 : decode cX10_hourBy 48 = .ok (.invokestatic 190, 3) := by decide +kernel
theorem dX10_hourBy_51 : decode cX10_hourBy 51 = .ok (.ifCond .eq 10, 3) := by decide +kernel
theorem dX10_hourBy_54 : decode cX10_hourBy 54 = .ok (.iconst 1, 1) := by decide +kernel
theorem dX10_hourBy_55 : decode cX10_hourBy 55 = .ok (.iload 6, 2) := by decide +kernel
theorem dX10_hourBy_57 : decode cX10_hourBy 57 = .ok (.ishl, 1) := by decide +kernel
theorem dX10_hourBy_58 : decode cX10_hourBy 58 = .ok (.goto 4, 3) := by decide +kernel
theorem dX10_hourBy_61 : decode cX10_hourBy 61 = .ok (.iconst 0, 1) := by decide +kernel
theorem dX10_hourBy_62 : decode cX10_hourBy 62 = .ok (.ior, 1) := by decide +kernel
theorem dX10_hourBy_63 : decode cX10_hourBy 63 = .ok (.istore 5, 2) := by decide +kernel
theorem dX10_hourBy_65 : decode cX10_hourBy 65 = .ok (.iinc 6 1, 3) := by decide +kernel
theorem dX10_hourBy_68 : decode cX10_hourBy 68 = .ok (.goto (-40), 3) := by decide +kernel
theorem dX10_hourBy_71 : decode cX10_hourBy 71 = .ok (.iconst 0, 1) := by decide +kernel
theorem dX10_hourBy_72 : decode cX10_hourBy 72 = .ok (.istore 6, 2) := by decide +kernel
theorem dX10_hourBy_74 : decode cX10_hourBy 74 = .ok (.iload 6, 2) := by decide +kernel
theorem dX10_hourBy_76 : decode cX10_hourBy 76 = .ok (.aload_n 0, 1) := by decide +kernel
theorem dX10_hourBy_77 : decode cX10_hourBy 77 = .ok (.getfield 84, 3) := by decide +kernel
theorem dX10_hourBy_80 : decode cX10_hourBy 80 = .ok (.if_icmp .ge 40, 3) := by decide +kernel
theorem dX10_hourBy_83 : decode cX10_hourBy 83 = .ok (.aload_n 0, 1) := by decide +kernel
theorem dX10_hourBy_84 : decode cX10_hourBy 84 = .ok (.getfield 22, 3) := by decide +kernel
theorem dX10_hourBy_87 : decode cX10_hourBy 87 = .ok (.bipush 6, 2) := by decide +kernel
theorem dX10_hourBy_89 : decode cX10_hourBy 89 = .ok (.iload 6, 2) := by decide +kernel
theorem dX10_hourBy_91 : decode cX10_hourBy 91 = .ok (.iadd, 1) := by decide +kernel
theorem dX10_hourBy_92 : decode cX10_hourBy 92 = .ok (.dup2, 1) := by decide +kernel
theorem dX10_hourBy_93 : decode cX10_hourBy 93 = .ok (.iaload, 1) := by decide +kernel
theorem dX10_hourBy_94 : decode cX10_hourBy 94 = .ok (.iload_n 1, 1) := by decide +kernel
theorem dX10_hourBy_95 : decode cX10_hourBy 95 = .ok (.iload_n 3, 1) := by decide +kernel
theorem dX10_hourBy_96 : decode cX10_hourBy 96 = .ok (.iconst (-1), 1) := by decide +kernel
theorem dX10_hourBy_97 : decode cX10_hourBy 97 = .ok (.ixor, 1) := by decide +kernel
theorem dX10_hourBy_98 : decode cX10_hourBy 98 = .ok (.iand, 1) := by decide +kernel
theorem dX10_hourBy_99 : decode cX10_hourBy 99 = .ok (.iload 6, 2) := by decide +kernel
theorem dX10_hourBy_101 : decode cX10_hourBy 101 = .ok (.invokestatic 176, 3) := by decide +kernel
theorem dX10_hourBy_104 : decode cX10_hourBy 104 = .ok (.ifCond .eq 7, 3) := by decide +kernel
theorem dX10_hourBy_107 : decode cX10_hourBy 107 = .ok (.iconst 1, 1) := by decide +kernel
theorem dX10_hourBy_108 : decode cX10_hourBy 108 = .ok (.goto 4, 3) := by decide +kernel
theorem dX10_hourBy_111 : decode cX10_hourBy 111 = .ok (.iconst 0, 1) := by decide +kernel
theorem dX10_hourBy_112 : decode cX10_hourBy 112 = .ok (.iadd, 1) := by decide +kernel
theorem dX10_hourBy_113 : decode cX10_hourBy 113 = .ok (.iastore, 1) := by decide +kernel
theorem dX10_hourBy_114 : decode cX10_hourBy 114 = .ok (.iinc 6 1, 3) := by decide +kernel
theorem dX10_hourBy_117 : decode cX10_hourBy 117 = .ok (.goto (-43), 3) := by decide +kernel
theorem dX10_hourBy_120 : decode cX10_hourBy 120 = .ok (.aload_n 0, 1) := by decide +kernel
theorem dX10_hourBy_121 : decode cX10_hourBy 121 = .ok (.getfield 22, 3) := by decide +kernel
theorem dX10_hourBy_124 : decode cX10_hourBy 124 = .ok (.bipush 13, 2) := by decide +kernel
theorem dX10_hourBy_126 : decode cX10_hourBy 126 = .ok (.iload 4, 2) := by decide +kernel
theorem dX10_hourBy_128 : decode cX10_hourBy 128 = .ok (.ifCond .eq 23, 3) := by decide +kernel
theorem dX10_hourBy_131 : decode cX10_hourBy 131 = .ok (.aload_n 0, 1) := by decide +kernel
theorem dX10_hourBy_132 : decode cX10_hourBy 132 = .ok (.getfield 22, 3) := by decide +kernel
theorem dX10_hourBy_135 : decode cX10_hourBy 135 = .ok (.bipush 13, 2) := by decide +kernel
theorem dX10_hourBy_137 : decode cX10_hourBy 137 = .ok (.iaload, 1) := by decide +kernel
theorem dX10_hourBy_138 : decode cX10_hourBy 138 = .ok (.aload_n 0, 1) := by decide +kernel
theorem dX10_hourBy_139 : decode cX10_hourBy 139 = .ok (.getfield 144, 3) := by decide +kernel
theorem dX10_hourBy_142 : decode cX10_hourBy 142 = .ok (.iadd, 1) := by decide +kernel
theorem dX10_hourBy_143 : decode cX10_hourBy 143 = .ok (.ldc 194, 2) := by decide +kernel
theorem dX10_hourBy_145 : decode cX10_hourBy 145 = .ok (.invokestatic 183, 3) := by decide +kernel
theorem dX10_hourBy_148 : decode cX10_hourBy 148 = .ok (.goto 10, 3) := by decide +kernel
theorem dX10_hourBy_151 : decode cX10_hourBy 151 = .ok (.aload_n 0, 1) := by decide +kernel
theorem dX10_hourBy_152 : decode cX10_hourBy 152 = .ok (.getfield 22, 3) := by decide +kernel
theorem dX10_hourBy_155 : decode cX10_hourBy 155 = .ok (.bipush 13, 2) := by decide +kernel
theorem dX10_hourBy_157 : decode cX10_hourBy 157 = .ok (.iaload, 1) := by decide +kernel
theorem dX10_hourBy_158 : decode cX10_hourBy 158 = .ok (.iastore, 1) := by decide +kernel
theorem dX10_hourBy_159 : decode cX10_hourBy 159 = .ok (.aload_n 0, 1) := by decide +kernel
theorem dX10_hourBy_160 : decode cX10_hourBy 160 = .ok (.getfield 22, 3) := by decide +kernel
theorem dX10_hourBy_163 : decode cX10_hourBy 163 = .ok (.bipush 14, 2) := by decide +kernel
theorem dX10_hourBy_165 : decode cX10_hourBy 165 = .ok (.aload_n 0, 1) := by decide +kernel
theorem dX10_hourBy_166 : decode cX10_hourBy 166 = .ok (.getfield 22, 3) := by decide +kernel
theorem dX10_hourBy_169 : decode cX10_hourBy 169 = .ok (.bipush 14, 2) := by decide +kernel
theorem dX10_hourBy_171 : decode cX10_hourBy 171 = .ok (.iaload, 1) := by decide +kernel
theorem dX10_hourBy_172 : decode cX10_hourBy 172 = .ok (.aload_n 0, 1) := by decide +kernel
theorem dX10_hourBy_173 : decode cX10_hourBy 173 = .ok (.getfield 147, 3) := by decide +kernel
theorem dX10_hourBy_176 : decode cX10_hourBy 176 = .ok (.iload 5, 2) := by decide +kernel
theorem dX10_hourBy_178 : decode cX10_hourBy 178 = .ok (.invokestatic 195, 3) := by decide +kernel
theorem dX10_hourBy_181 : decode cX10_hourBy 181 = .ok (.imul, 1) := by decide +kernel
theorem dX10_hourBy_182 : decode cX10_hourBy 182 = .ok (.iadd, 1) := by decide +kernel
theorem dX10_hourBy_183 : decode cX10_hourBy 183 = .ok (.ldc 194, 2) := by decide +kernel
theorem dX10_hourBy_185 : decode cX10_hourBy 185 = .ok (.invokestatic 183, 3) := by decide +kernel
theorem dX10_hourBy_188 : decode cX10_hourBy 188 = .ok (.iastore, 1) := by decide +kernel
theorem dX10_hourBy_189 : decode cX10_hourBy 189 = .ok (.aload_n 0, 1) := by decide +kernel
theorem dX10_hourBy_190 : decode cX10_hourBy 190 = .ok (.getfield 22, 3) := by decide +kernel
theorem dX10_hourBy_193 : decode cX10_hourBy 193 = .ok (.bipush 15, 2) := by decide +kernel
theorem dX10_hourBy_195 : decode cX10_hourBy 195 = .ok (.iload_n 3, 1) := by decide +kernel
theorem dX10_hourBy_196 : decode cX10_hourBy 196 = .ok (.iastore, 1) := by decide +kernel
theorem dX10_hourBy_197 : decode cX10_hourBy 197 = .ok (.aload_n 0, 1) := by decide +kernel
theorem dX10_hourBy_198 : decode cX10_hourBy 198 = .ok (.getfield 22, 3) := by decide +kernel
theorem dX10_hourBy_201 : decode cX10_hourBy 201 = .ok (.bipush 16, 2) := by decide +kernel
theorem dX10_hourBy_203 : decode cX10_hourBy 203 = .ok (.iload 5, 2) := by decide +kernel
theorem dX10_hourBy_205 : decode cX10_hourBy 205 = .ok (.iastore, 1) := by decide +kernel
theorem dX10_hourBy_206 : decode cX10_hourBy 206 = .ok (.aload_n 0, 1) := by decide +kernel
theorem dX10_hourBy_207 : decode cX10_hourBy 207 = .ok (.getfield 22, 3) := by decide +kernel
theorem dX10_hourBy_210 : decode cX10_hourBy 210 = .ok (.bipush 17, 2) := by decide +kernel
theorem dX10_hourBy_212 : decode cX10_hourBy 212 = .ok (.dup2, 1) := by decide +kernel
theorem dX10_hourBy_213 : decode cX10_hourBy 213 = .ok (.iaload, 1) := by decide +kernel
theorem dX10_hourBy_214 : decode cX10_hourBy 214 = .ok (.iload 4, 2) := by decide +kernel
theorem dX10_hourBy_216 : decode cX10_hourBy 216 = .ok (.ifCond .eq 7, 3) := by decide +kernel
theorem dX10_hourBy_219 : decode cX10_hourBy 219 = .ok (.iconst 0, 1) := by decide +kernel
theorem dX10_hourBy_220 : decode cX10_hourBy 220 = .ok (.goto 4, 3) := by decide +kernel
theorem dX10_hourBy_223 : decode cX10_hourBy 223 = .ok (.iconst 1, 1) := by decide +kernel
theorem dX10_hourBy_224 : decode cX10_hourBy 224 = .ok (.iadd, 1) := by decide +kernel
theorem dX10_hourBy_225 : decode cX10_hourBy 225 = .ok (.iastore, 1) := by decide +kernel
theorem dX10_hourBy_226 : decode cX10_hourBy 226 = .ok (.aload_n 0, 1) := by decide +kernel
theorem dX10_hourBy_227 : decode cX10_hourBy 227 = .ok (.invokevirtual 199, 3) := by decide +kernel
theorem dX10_hourBy_230 : decode cX10_hourBy 230 = .ok (.return_, 1) := by decide +kernel
theorem dX10_remember_0 : decode cX10_remember 0 = .ok (.aload_n 0, 1) := by decide +kernel
theorem dX10_remember_1 : decode cX10_remember 1 = .ok (.getfield 165, 3) := by decide +kernel
theorem dX10_remember_4 : decode cX10_remember 4 = .ok (.bipush 20, 2) := by decide +kernel
theorem dX10_remember_6 : decode cX10_remember 6 = .ok (.if_icmp .ne 44, 3) := by decide +kernel
theorem dX10_remember_9 : decode cX10_remember 9 = .ok (.bipush 19, 2) := by decide +kernel
theorem dX10_remember_11 : decode cX10_remember 11 = .ok (.istore_n 1, 1) := by decide +kernel
theorem dX10_remember_12 : decode cX10_remember 12 = .ok (.iload_n 1, 1) := by decide +kernel
theorem dX10_remember_13 : decode cX10_remember 13 = .ok (.sipush 380, 3) := by decide +kernel
theorem dX10_remember_16 : decode cX10_remember 16 = .ok (.if_icmp .ge 24, 3) := by decide +kernel
theorem dX10_remember_19 : decode cX10_remember 19 = .ok (.aload_n 0, 1) := by decide +kernel
theorem dX10_remember_20 : decode cX10_remember 20 = .ok (.getfield 50, 3) := by decide +kernel
theorem dX10_remember_23 : decode cX10_remember 23 = .ok (.iload_n 1, 1) := by decide +kernel
theorem dX10_remember_24 : decode cX10_remember 24 = .ok (.bipush 19, 2) := by decide +kernel
theorem dX10_remember_26 : decode cX10_remember 26 = .ok (.isub, 1) := by decide +kernel
theorem dX10_remember_27 : decode cX10_remember 27 = .ok (.aload_n 0, 1) := by decide +kernel
theorem dX10_remember_28 : decode cX10_remember 28 = .ok (.getfield 50, 3) := by decide +kernel
theorem dX10_remember_31 : decode cX10_remember 31 = .ok (.iload_n 1, 1) := by decide +kernel
theorem dX10_remember_32 : decode cX10_remember 32 = .ok (.iaload, 1) := by decide +kernel
theorem dX10_remember_33 : decode cX10_remember 33 = .ok (.iastore, 1) := by decide +kernel
theorem dX10_remember_34 : decode cX10_remember 34 = .ok (.iinc 1 1, 3) := by decide +kernel
theorem dX10_remember_37 : decode cX10_remember 37 = .ok (.goto (-25), 3) := by decide +kernel
theorem dX10_remember_40 : decode cX10_remember 40 = .ok (.aload_n 0, 1) := by decide +kernel
theorem dX10_remember_41 : decode cX10_remember 41 = .ok (.dup, 1) := by decide +kernel
theorem dX10_remember_42 : decode cX10_remember 42 = .ok (.getfield 165, 3) := by decide +kernel
theorem dX10_remember_45 : decode cX10_remember 45 = .ok (.iconst 1, 1) := by decide +kernel
theorem dX10_remember_46 : decode cX10_remember 46 = .ok (.isub, 1) := by decide +kernel
theorem dX10_remember_47 : decode cX10_remember 47 = .ok (.putfield 165, 3) := by decide +kernel
theorem dX10_remember_50 : decode cX10_remember 50 = .ok (.iconst 0, 1) := by decide +kernel
theorem dX10_remember_51 : decode cX10_remember 51 = .ok (.istore_n 1, 1) := by decide +kernel
theorem dX10_remember_52 : decode cX10_remember 52 = .ok (.iload_n 1, 1) := by decide +kernel
theorem dX10_remember_53 : decode cX10_remember 53 = .ok (.bipush 19, 2) := by decide +kernel
theorem dX10_remember_55 : decode cX10_remember 55 = .ok (.if_icmp .ge 29, 3) := by decide +kernel
theorem dX10_remember_58 : decode cX10_remember 58 = .ok (.aload_n 0, 1) := by decide +kernel
theorem dX10_remember_59 : decode cX10_remember 59 = .ok (.getfield 50, 3) := by decide +kernel
theorem dX10_remember_62 : decode cX10_remember 62 = .ok (.bipush 19, 2) := by decide +kernel
theorem dX10_remember_64 : decode cX10_remember 64 = .ok (.aload_n 0, 1) := by decide +kernel
theorem dX10_remember_65 : decode cX10_remember 65 = .ok (.getfield 165, 3) := by decide +kernel
theorem dX10_remember_68 : decode cX10_remember 68 = .ok (.imul, 1) := by decide +kernel
theorem dX10_remember_69 : decode cX10_remember 69 = .ok (.iload_n 1, 1) := by decide +kernel
theorem dX10_remember_70 : decode cX10_remember 70 = .ok (.iadd, 1) := by decide +kernel
theorem dX10_remember_71 : decode cX10_remember 71 = .ok (.aload_n 0, 1) := by decide +kernel
theorem dX10_remember_72 : decode cX10_remember 72 = .ok (.getfield 22, 3) := by decide +kernel
theorem dX10_remember_75 : decode cX10_remember 75 = .ok (.iload_n 1, 1) := by decide +kernel
theorem dX10_remember_76 : decode cX10_remember 76 = .ok (.iaload, 1) := by decide +kernel
theorem dX10_remember_77 : decode cX10_remember 77 = .ok (.iastore, 1) := by decide +kernel
theorem dX10_remember_78 : decode cX10_remember 78 = .ok (.iinc 1 1, 3) := by decide +kernel
theorem dX10_remember_81 : decode cX10_remember 81 = .ok (.goto (-29), 3) := by decide +kernel
theorem dX10_remember_84 : decode cX10_remember 84 = .ok (.aload_n 0, 1) := by decide +kernel
theorem dX10_remember_85 : decode cX10_remember 85 = .ok (.dup, 1) := by decide +kernel
theorem dX10_remember_86 : decode cX10_remember 86 = .ok (.getfield 165, 3) := by decide +kernel
theorem dX10_remember_89 : decode cX10_remember 89 = .ok (.iconst 1, 1) := by decide +kernel
theorem dX10_remember_90 : decode cX10_remember 90 = .ok (.iadd, 1) := by decide +kernel
theorem dX10_remember_91 : decode cX10_remember 91 = .ok (.putfield 165, 3) := by decide +kernel
theorem dX10_remember_94 : decode cX10_remember 94 = .ok (.return_, 1) := by decide +kernel
theorem dX10_hour_0 : decode cX10_hour 0 = .ok (.aload_n 0, 1) := by decide +kernel
theorem dX10_hour_1 : decode cX10_hour 1 = .ok (.iload_n 1, 1) := by decide +kernel
theorem dX10_hour_2 : decode cX10_hour 2 = .ok (.invokevirtual 202, 3) := by decide +kernel
theorem dX10_hour_5 : decode cX10_hour 5 = .ok (.ifCond .ne 6, 3) := by decide +kernel
theorem dX10_hour_8 : decode cX10_hour 8 = .ok (.ldc 172, 2) := by decide +kernel
theorem dX10_hour_10 : decode cX10_hour 10 = .ok (.ireturn, 1) := by decide +kernel
theorem dX10_hour_11 : decode cX10_hour 11 = .ok (.aload_n 0, 1) := by decide +kernel
theorem dX10_hour_12 : decode cX10_hour 12 = .ok (.getfield 81, 3) := by decide +kernel
theorem dX10_hour_15 : decode cX10_hour 15 = .ok (.ifCond .ne 6, 3) := by decide +kernel
theorem dX10_hour_18 : decode cX10_hour 18 = .ok (.ldc 205, 2) := by decide +kernel
theorem dX10_hour_20 : decode cX10_hour 20 = .ok (.ireturn, 1) := by decide +kernel
theorem dX10_hour_21 : decode cX10_hour 21 = .ok (.aload_n 0, 1) := by decide +kernel
theorem dX10_hour_22 : decode cX10_hour 22 = .ok (.getfield 22, 3) := by decide +kernel
theorem dX10_hour_25 : decode cX10_hour 25 = .ok (.bipush 12, 2) := by decide +kernel
theorem dX10_hour_27 : decode cX10_hour 27 = .ok (.iaload, 1) := by decide +kernel
theorem dX10_hour_28 : decode cX10_hour 28 = .ok (.ldc 206, 2) := by decide +kernel
theorem dX10_hour_30 : decode cX10_hour 30 = .ok (.if_icmp .le 6, 3) := by decide +kernel
theorem dX10_hour_33 : decode cX10_hour 33 = .ok (.ldc 100, 2) := by decide +kernel
theorem dX10_hour_35 : decode cX10_hour 35 = .ok (.ireturn, 1) := by decide +kernel
theorem dX10_hour_36 : decode cX10_hour 36 = .ok (.aload_n 0, 1) := by decide +kernel
theorem dX10_hour_37 : decode cX10_hour 37 = .ok (.invokevirtual 207, 3) := by decide +kernel
theorem dX10_hour_40 : decode cX10_hour 40 = .ok (.aload_n 0, 1) := by decide +kernel
theorem dX10_hour_41 : decode cX10_hour 41 = .ok (.iload_n 1, 1) := by decide +kernel
theorem dX10_hour_42 : decode cX10_hour 42 = .ok (.iload_n 2, 1) := by decide +kernel
theorem dX10_hour_43 : decode cX10_hour 43 = .ok (.invokevirtual 210, 3) := by decide +kernel
theorem dX10_hour_46 : decode cX10_hour 46 = .ok (.aload_n 0, 1) := by decide +kernel
theorem dX10_hour_47 : decode cX10_hour 47 = .ok (.getfield 22, 3) := by decide +kernel
theorem dX10_hour_50 : decode cX10_hour 50 = .ok (.bipush 15, 2) := by decide +kernel
theorem dX10_hour_52 : decode cX10_hour 52 = .ok (.iaload, 1) := by decide +kernel
theorem dX10_hour_53 : decode cX10_hour 53 = .ok (.ireturn, 1) := by decide +kernel
theorem dX10_coffee_0 : decode cX10_coffee 0 = .ok (.aload_n 0, 1) := by decide +kernel
theorem dX10_coffee_1 : decode cX10_coffee 1 = .ok (.iload_n 1, 1) := by decide +kernel
theorem dX10_coffee_2 : decode cX10_coffee 2 = .ok (.invokevirtual 168, 3) := by decide +kernel
theorem dX10_coffee_5 : decode cX10_coffee 5 = .ok (.ifCond .ne 6, 3) := by decide +kernel
theorem dX10_coffee_8 : decode cX10_coffee 8 = .ok (.ldc 172, 2) := by decide +kernel
theorem dX10_coffee_10 : decode cX10_coffee 10 = .ok (.ireturn, 1) := by decide +kernel
theorem dX10_coffee_11 : decode cX10_coffee 11 = .ok (.aload_n 0, 1) := by decide +kernel
theorem dX10_coffee_12 : decode cX10_coffee 12 = .ok (.getfield 22, 3) := by decide +kernel
theorem dX10_coffee_15 : decode cX10_coffee 15 = .ok (.bipush 18, 2) := by decide +kernel
theorem dX10_coffee_17 : decode cX10_coffee 17 = .ok (.iaload, 1) := by decide +kernel
theorem dX10_coffee_18 : decode cX10_coffee 18 = .ok (.iload_n 1, 1) := by decide +kernel
theorem dX10_coffee_19 : decode cX10_coffee 19 = .ok (.invokestatic 176, 3) := by decide +kernel
theorem dX10_coffee_22 : decode cX10_coffee 22 = .ok (.ifCond .eq 6, 3) := by decide +kernel
theorem dX10_coffee_25 : decode cX10_coffee 25 = .ok (.ldc 205, 2) := by decide +kernel
theorem dX10_coffee_27 : decode cX10_coffee 27 = .ok (.ireturn, 1) := by decide +kernel
theorem dX10_coffee_28 : decode cX10_coffee 28 = .ok (.aload_n 0, 1) := by decide +kernel
theorem dX10_coffee_29 : decode cX10_coffee 29 = .ok (.invokevirtual 207, 3) := by decide +kernel
theorem dX10_coffee_32 : decode cX10_coffee 32 = .ok (.aload_n 0, 1) := by decide +kernel
theorem dX10_coffee_33 : decode cX10_coffee 33 = .ok (.getfield 22, 3) := by decide +kernel
theorem dX10_coffee_36 : decode cX10_coffee 36 = .ok (.iload_n 1, 1) := by decide +kernel
theorem dX10_coffee_37 : decode cX10_coffee 37 = .ok (.aload_n 0, 1) := by decide +kernel
theorem dX10_coffee_38 : decode cX10_coffee 38 = .ok (.getfield 22, 3) := by decide +kernel
theorem dX10_coffee_41 : decode cX10_coffee 41 = .ok (.iload_n 1, 1) := by decide +kernel
theorem dX10_coffee_42 : decode cX10_coffee 42 = .ok (.iaload, 1) := by decide +kernel
theorem dX10_coffee_43 : decode cX10_coffee 43 = .ok (.bipush 30, 2) := by decide +kernel
theorem dX10_coffee_45 : decode cX10_coffee 45 = .ok (.isub, 1) := by decide +kernel
theorem dX10_coffee_46 : decode cX10_coffee 46 = .ok (.iconst 0, 1) := by decide +kernel
theorem dX10_coffee_47 : decode cX10_coffee 47 = .ok (.invokestatic 180, 3) := by decide +kernel
theorem dX10_coffee_50 : decode cX10_coffee 50 = .ok (.iastore, 1) := by decide +kernel
theorem dX10_coffee_51 : decode cX10_coffee 51 = .ok (.aload_n 0, 1) := by decide +kernel
theorem dX10_coffee_52 : decode cX10_coffee 52 = .ok (.getfield 22, 3) := by decide +kernel
theorem dX10_coffee_55 : decode cX10_coffee 55 = .ok (.bipush 18, 2) := by decide +kernel
end
section
theorem dX10_coffee_57 : decode cX10_coffee 57 = .ok (.dup2, 1) := by decide +kernel
theorem dX10_coffee_58 : decode cX10_coffee 58 = .ok (.iaload, 1) := by decide +kernel
theorem dX10_coffee_59 : decode cX10_coffee 59 = .ok (.iconst 1, 1) := by decide +kernel
theorem dX10_coffee_60 : decode cX10_coffee 60 = .ok (.iload_n 1, 1) := by decide +kernel
theorem dX10_coffee_61 : decode cX10_coffee 61 = .ok (.ishl, 1) := by decide +kernel
theorem dX10_coffee_62 : decode cX10_coffee 62 = .ok (.ior, 1) := by decide +kernel
theorem dX10_coffee_63 : decode cX10_coffee 63 = .ok (.iastore, 1) := by decide +kernel
theorem dX10_coffee_64 : decode cX10_coffee 64 = .ok (.aload_n 0, 1) := by decide +kernel
theorem dX10_coffee_65 : decode cX10_coffee 65 = .ok (.getfield 22, 3) := by decide +kernel
theorem dX10_coffee_68 : decode cX10_coffee 68 = .ok (.iload_n 1, 1) := by decide +kernel
theorem dX10_coffee_69 : decode cX10_coffee 69 = .ok (.iaload, 1) := by decide +kernel
theorem dX10_coffee_70 : decode cX10_coffee 70 = .ok (.ireturn, 1) := by decide +kernel
theorem dX10_hoursRefused_0 : decode cX10_hoursRefused 0 = .ok (.iload_n 1, 1) := by decide +kernel
theorem dX10_hoursRefused_1 : decode cX10_hoursRefused 1 = .ok (.i2l, 1) := by decide +kernel
theorem dX10_hoursRefused_2 : decode cX10_hoursRefused 2 = .ok (.lconst 1, 1) := by decide +kernel
theorem dX10_hoursRefused_3 : decode cX10_hoursRefused 3 = .ok (.ldc2_w 214, 3) := by decide +kernel
theorem dX10_hoursRefused_6 : decode cX10_hoursRefused 6 = .ok (.invokestatic 87, 3) := by decide +kernel
theorem dX10_hoursRefused_9 : decode cX10_hoursRefused 9 = .ok (.ifCond .ne 6, 3) := by decide +kernel
theorem dX10_hoursRefused_12 : decode cX10_hoursRefused 12 = .ok (.ldc 96, 2) := by decide +kernel
theorem dX10_hoursRefused_14 : decode cX10_hoursRefused 14 = .ok (.ireturn, 1) := by decide +kernel
theorem dX10_hoursRefused_15 : decode cX10_hoursRefused 15 = .ok (.aload_n 0, 1) := by decide +kernel
theorem dX10_hoursRefused_16 : decode cX10_hoursRefused 16 = .ok (.getfield 81, 3) := by decide +kernel
theorem dX10_hoursRefused_19 : decode cX10_hoursRefused 19 = .ok (.ifCond .ne 8, 3) := by decide +kernel
theorem dX10_hoursRefused_22 : decode cX10_hoursRefused 22 = .ok (.ldc 205, 2) := by decide +kernel
theorem dX10_hoursRefused_24 : decode cX10_hoursRefused 24 = .ok (.goto 21, 3) := by decide +kernel
theorem dX10_hoursRefused_27 : decode cX10_hoursRefused 27 = .ok (.aload_n 0, 1) := by decide +kernel
theorem dX10_hoursRefused_28 : decode cX10_hoursRefused 28 = .ok (.getfield 22, 3) := by decide +kernel
theorem dX10_hoursRefused_31 : decode cX10_hoursRefused 31 = .ok (.bipush 12, 2) := by decide +kernel
theorem dX10_hoursRefused_33 : decode cX10_hoursRefused 33 = .ok (.iaload, 1) := by decide +kernel
theorem dX10_hoursRefused_34 : decode cX10_hoursRefused 34 = .ok (.ldc 206, 2) := by decide +kernel
theorem dX10_hoursRefused_36 : decode cX10_hoursRefused 36 = .ok (.if_icmp .le 8, 3) := by decide +kernel
theorem dX10_hoursRefused_39 : decode cX10_hoursRefused 39 = .ok (.ldc 100, 2) := by decide +kernel
theorem dX10_hoursRefused_41 : decode cX10_hoursRefused 41 = .ok (.goto 4, 3) := by decide +kernel
theorem dX10_hoursRefused_44 : decode cX10_hoursRefused 44 = .ok (.iconst 0, 1) := by decide +kernel
theorem dX10_hoursRefused_45 : decode cX10_hoursRefused 45 = .ok (.ireturn, 1) := by decide +kernel
theorem dX10_rest_0 : decode cX10_rest 0 = .ok (.aload_n 0, 1) := by decide +kernel
theorem dX10_rest_1 : decode cX10_rest 1 = .ok (.iload_n 1, 1) := by decide +kernel
theorem dX10_rest_2 : decode cX10_rest 2 = .ok (.invokevirtual 216, 3) := by decide +kernel
theorem dX10_rest_5 : decode cX10_rest 5 = .ok (.istore_n 2, 1) := by decide +kernel
theorem dX10_rest_6 : decode cX10_rest 6 = .ok (.iload_n 2, 1) := by decide +kernel
theorem dX10_rest_7 : decode cX10_rest 7 = .ok (.ifCond .eq 5, 3) := by decide +kernel
theorem dX10_rest_10 : decode cX10_rest 10 = .ok (.iload_n 2, 1) := by decide +kernel
theorem dX10_rest_11 : decode cX10_rest 11 = .ok (.ireturn, 1) := by decide +kernel
theorem dX10_rest_12 : decode cX10_rest 12 = .ok (.aload_n 0, 1) := by decide +kernel
theorem dX10_rest_13 : decode cX10_rest 13 = .ok (.invokevirtual 207, 3) := by decide +kernel
theorem dX10_rest_16 : decode cX10_rest 16 = .ok (.iconst 0, 1) := by decide +kernel
theorem dX10_rest_17 : decode cX10_rest 17 = .ok (.istore_n 3, 1) := by decide +kernel
theorem dX10_rest_18 : decode cX10_rest 18 = .ok (.iload_n 3, 1) := by decide +kernel
theorem dX10_rest_19 : decode cX10_rest 19 = .ok (.iload_n 1, 1) := by decide +kernel
theorem dX10_rest_20 : decode cX10_rest 20 = .ok (.if_icmp .ge 34, 3) := by decide +kernel
theorem dX10_rest_23 : decode cX10_rest 23 = .ok (.aload_n 0, 1) := by decide +kernel
theorem dX10_rest_24 : decode cX10_rest 24 = .ok (.getfield 22, 3) := by decide +kernel
theorem dX10_rest_27 : decode cX10_rest 27 = .ok (.bipush 15, 2) := by decide +kernel
theorem dX10_rest_29 : decode cX10_rest 29 = .ok (.aload_n 0, 1) := by decide +kernel
theorem dX10_rest_30 : decode cX10_rest 30 = .ok (.iconst 0, 1) := by decide +kernel
theorem dX10_rest_31 : decode cX10_rest 31 = .ok (.iconst 0, 1) := by decide +kernel
theorem dX10_rest_32 : decode cX10_rest 32 = .ok (.invokevirtual 186, 3) := by decide +kernel
theorem dX10_rest_35 : decode cX10_rest 35 = .ok (.iastore, 1) := by decide +kernel
theorem dX10_rest_36 : decode cX10_rest 36 = .ok (.aload_n 0, 1) := by decide +kernel
theorem dX10_rest_37 : decode cX10_rest 37 = .ok (.getfield 22, 3) := by decide +kernel
theorem dX10_rest_40 : decode cX10_rest 40 = .ok (.bipush 16, 2) := by decide +kernel
theorem dX10_rest_42 : decode cX10_rest 42 = .ok (.iconst 0, 1) := by decide +kernel
theorem dX10_rest_43 : decode cX10_rest 43 = .ok (.iastore, 1) := by decide +kernel
theorem dX10_rest_44 : decode cX10_rest 44 = .ok (.aload_n 0, 1) := by decide +kernel
theorem dX10_rest_45 : decode cX10_rest 45 = .ok (.invokevirtual 199, 3) := by decide +kernel
theorem dX10_rest_48 : decode cX10_rest 48 = .ok (.iinc 3 1, 3) := by decide +kernel
theorem dX10_rest_51 : decode cX10_rest 51 = .ok (.goto (-33), 3) := by decide +kernel
theorem dX10_rest_54 : decode cX10_rest 54 = .ok (.aload_n 0, 1) := by decide +kernel
theorem dX10_rest_55 : decode cX10_rest 55 = .ok (.getfield 22, 3) := by decide +kernel
theorem dX10_rest_58 : decode cX10_rest 58 = .ok (.bipush 12, 2) := by decide +kernel
theorem dX10_rest_60 : decode cX10_rest 60 = .ok (.iaload, 1) := by decide +kernel
theorem dX10_rest_61 : decode cX10_rest 61 = .ok (.ireturn, 1) := by decide +kernel
theorem dX10_draw_0 : decode cX10_draw 0 = .ok (.aload_n 0, 1) := by decide +kernel
theorem dX10_draw_1 : decode cX10_draw 1 = .ok (.aload_n 0, 1) := by decide +kernel
theorem dX10_draw_2 : decode cX10_draw 2 = .ok (.getfield 219, 3) := by decide +kernel
theorem dX10_draw_5 : decode cX10_draw 5 = .ok (.i2l, 1) := by decide +kernel
theorem dX10_draw_6 : decode cX10_draw 6 = .ok (.ldc2_w 222, 3) := by decide +kernel
theorem dX10_draw_9 : decode cX10_draw 9 = .ok (.lmul, 1) := by decide +kernel
theorem dX10_draw_10 : decode cX10_draw 10 = .ok (.ldc2_w 224, 3) := by decide +kernel
theorem dX10_draw_13 : decode cX10_draw 13 = .ok (.ladd, 1) := by decide +kernel
theorem dX10_draw_14 : decode cX10_draw 14 = .ok (.ldc2_w 226, 3) := by decide +kernel
theorem dX10_draw_17 : decode cX10_draw 17 = .ok (.lrem, 1) := by decide +kernel
theorem dX10_draw_18 : decode cX10_draw 18 = .ok (.l2i, 1) := by decide +kernel
theorem dX10_draw_19 : decode cX10_draw 19 = .ok (.putfield 219, 3) := by decide +kernel
theorem dX10_draw_22 : decode cX10_draw 22 = .ok (.aload_n 0, 1) := by decide +kernel
theorem dX10_draw_23 : decode cX10_draw 23 = .ok (.getfield 219, 3) := by decide +kernel
theorem dX10_draw_26 : decode cX10_draw 26 = .ok (.ldc 228, 2) := by decide +kernel
theorem dX10_draw_28 : decode cX10_draw 28 = .ok (.idiv, 1) := by decide +kernel
theorem dX10_draw_29 : decode cX10_draw 29 = .ok (.iload_n 1, 1) := by decide +kernel
theorem dX10_draw_30 : decode cX10_draw 30 = .ok (.irem, 1) := by decide +kernel
theorem dX10_draw_31 : decode cX10_draw 31 = .ok (.ireturn, 1) := by decide +kernel
theorem dX10_drift_0 : decode cX10_drift 0 = .ok (.aload_n 0, 1) := by decide +kernel
theorem dX10_drift_1 : decode cX10_drift 1 = .ok (.iload_n 1, 1) := by decide +kernel
theorem dX10_drift_2 : decode cX10_drift 2 = .ok (.invokevirtual 216, 3) := by decide +kernel
theorem dX10_drift_5 : decode cX10_drift 5 = .ok (.istore_n 2, 1) := by decide +kernel
theorem dX10_drift_6 : decode cX10_drift 6 = .ok (.iload_n 2, 1) := by decide +kernel
theorem dX10_drift_7 : decode cX10_drift 7 = .ok (.ifCond .eq 5, 3) := by decide +kernel
theorem dX10_drift_10 : decode cX10_drift 10 = .ok (.iload_n 2, 1) := by decide +kernel
theorem dX10_drift_11 : decode cX10_drift 11 = .ok (.ireturn, 1) := by decide +kernel
theorem dX10_drift_12 : decode cX10_drift 12 = .ok (.aload_n 0, 1) := by decide +kernel
theorem dX10_drift_13 : decode cX10_drift 13 = .ok (.invokevirtual 207, 3) := by decide +kernel
theorem dX10_drift_16 : decode cX10_drift 16 = .ok (.iconst 0, 1) := by decide +kernel
theorem dX10_drift_17 : decode cX10_drift 17 = .ok (.istore_n 3, 1) := by decide +kernel
theorem dX10_drift_18 : decode cX10_drift 18 = .ok (.iload_n 3, 1) := by decide +kernel
theorem dX10_drift_19 : decode cX10_drift 19 = .ok (.iload_n 1, 1) := by decide +kernel
theorem dX10_drift_20 : decode cX10_drift 20 = .ok (.if_icmp .ge 40, 3) := by decide +kernel
theorem dX10_drift_23 : decode cX10_drift 23 = .ok (.aload_n 0, 1) := by decide +kernel
theorem dX10_drift_24 : decode cX10_drift 24 = .ok (.iconst 1, 1) := by decide +kernel
theorem dX10_drift_25 : decode cX10_drift 25 = .ok (.aload_n 0, 1) := by decide +kernel
theorem dX10_drift_26 : decode cX10_drift 26 = .ok (.getfield 84, 3) := by decide +kernel
theorem dX10_drift_29 : decode cX10_drift 29 = .ok (.ishl, 1) := by decide +kernel
theorem dX10_drift_30 : decode cX10_drift 30 = .ok (.invokevirtual 229, 3) := by decide +kernel
theorem dX10_drift_33 : decode cX10_drift 33 = .ok (.istore 4, 2) := by decide +kernel
theorem dX10_drift_35 : decode cX10_drift 35 = .ok (.aload_n 0, 1) := by decide +kernel
theorem dX10_drift_36 : decode cX10_drift 36 = .ok (.iload 4, 2) := by decide +kernel
theorem dX10_drift_38 : decode cX10_drift 38 = .ok (.aload_n 0, 1) := by decide +kernel
theorem dX10_drift_39 : decode cX10_drift 39 = .ok (.iconst 3, 1) := by decide +kernel
theorem dX10_drift_40 : decode cX10_drift 40 = .ok (.invokevirtual 229, 3) := by decide +kernel
theorem dX10_drift_43 : decode cX10_drift 43 = .ok (.ifCond .ne 7, 3) := by decide +kernel
theorem dX10_drift_46 : decode cX10_drift 46 = .ok (.iconst 1, 1) := by decide +kernel
theorem dX10_drift_47 : decode cX10_drift 47 = .ok (.goto 4, 3) := by decide +kernel
theorem dX10_drift_50 : decode cX10_drift 50 = .ok (.iconst 0, 1) := by decide +kernel
theorem dX10_drift_51 : decode cX10_drift 51 = .ok (.invokevirtual 210, 3) := by decide +kernel
theorem dX10_drift_54 : decode cX10_drift 54 = .ok (.iinc 3 1, 3) := by decide +kernel
theorem dX10_drift_57 : decode cX10_drift 57 = .ok (.goto (-39), 3) := by decide +kernel
theorem dX10_drift_60 : decode cX10_drift 60 = .ok (.aload_n 0, 1) := by decide +kernel
theorem dX10_drift_61 : decode cX10_drift 61 = .ok (.getfield 22, 3) := by decide +kernel
theorem dX10_drift_64 : decode cX10_drift 64 = .ok (.bipush 12, 2) := by decide +kernel
theorem dX10_drift_66 : decode cX10_drift 66 = .ok (.iaload, 1) := by decide +kernel
theorem dX10_drift_67 : decode cX10_drift 67 = .ok (.ireturn, 1) := by decide +kernel
theorem dX10_undo_0 : decode cX10_undo 0 = .ok (.aload_n 0, 1) := by decide +kernel
theorem dX10_undo_1 : decode cX10_undo 1 = .ok (.getfield 165, 3) := by decide +kernel
theorem dX10_undo_4 : decode cX10_undo 4 = .ok (.ifCond .ne 6, 3) := by decide +kernel
theorem dX10_undo_7 : decode cX10_undo 7 = .ok (.ldc 205, 2) := by decide +kernel
theorem dX10_undo_9 : decode cX10_undo 9 = .ok (.ireturn, 1) := by decide +kernel
theorem dX10_undo_10 : decode cX10_undo 10 = .ok (.aload_n 0, 1) := by decide +kernel
theorem dX10_undo_11 : decode cX10_undo 11 = .ok (.dup, 1) := by decide +kernel
theorem dX10_undo_12 : decode cX10_undo 12 = .ok (.getfield 165, 3) := by decide +kernel
theorem dX10_undo_15 : decode cX10_undo 15 = .ok (.iconst 1, 1) := by decide +kernel
theorem dX10_undo_16 : decode cX10_undo 16 = .ok (.isub, 1) := by decide +kernel
theorem dX10_undo_17 : decode cX10_undo 17 = .ok (.putfield 165, 3) := by decide +kernel
theorem dX10_undo_20 : decode cX10_undo 20 = .ok (.iconst 0, 1) := by decide +kernel
theorem dX10_undo_21 : decode cX10_undo 21 = .ok (.istore_n 1, 1) := by decide +kernel
theorem dX10_undo_22 : decode cX10_undo 22 = .ok (.iload_n 1, 1) := by decide +kernel
theorem dX10_undo_23 : decode cX10_undo 23 = .ok (.bipush 19, 2) := by decide +kernel
theorem dX10_undo_25 : decode cX10_undo 25 = .ok (.if_icmp .ge 29, 3) := by decide +kernel
theorem dX10_undo_28 : decode cX10_undo 28 = .ok (.aload_n 0, 1) := by decide +kernel
theorem dX10_undo_29 : decode cX10_undo 29 = .ok (.getfield 22, 3) := by decide +kernel
theorem dX10_undo_32 : decode cX10_undo 32 = .ok (.iload_n 1, 1) := by decide +kernel
theorem dX10_undo_33 : decode cX10_undo 33 = .ok (.aload_n 0, 1) := by decide +kernel
theorem dX10_undo_34 : decode cX10_undo 34 = .ok (.getfield 50, 3) := by decide +kernel
theorem dX10_undo_37 : decode cX10_undo 37 = .ok (.bipush 19, 2) := by decide +kernel
theorem dX10_undo_39 : decode cX10_undo 39 = .ok (.aload_n 0, 1) := by decide +kernel
theorem dX10_undo_40 : decode cX10_undo 40 = .ok (.getfield 165, 3) := by decide +kernel
theorem dX10_undo_43 : decode cX10_undo 43 = .ok (.imul, 1) := by decide +kernel
theorem dX10_undo_44 : decode cX10_undo 44 = .ok (.iload_n 1, 1) := by decide +kernel
theorem dX10_undo_45 : decode cX10_undo 45 = .ok (.iadd, 1) := by decide +kernel
theorem dX10_undo_46 : decode cX10_undo 46 = .ok (.iaload, 1) := by decide +kernel
theorem dX10_undo_47 : decode cX10_undo 47 = .ok (.iastore, 1) := by decide +kernel
theorem dX10_undo_48 : decode cX10_undo 48 = .ok (.iinc 1 1, 3) := by decide +kernel
theorem dX10_undo_51 : decode cX10_undo 51 = .ok (.goto (-29), 3) := by decide +kernel
theorem dX10_undo_54 : decode cX10_undo 54 = .ok (.aload_n 0, 1) := by decide +kernel
theorem dX10_undo_55 : decode cX10_undo 55 = .ok (.getfield 165, 3) := by decide +kernel
theorem dX10_undo_58 : decode cX10_undo 58 = .ok (.ireturn, 1) := by decide +kernel
theorem dX10_save_0 : decode cX10_save 0 = .ok (.iconst 0, 1) := by decide +kernel
theorem dX10_save_1 : decode cX10_save 1 = .ok (.istore_n 1, 1) := by decide +kernel
theorem dX10_save_2 : decode cX10_save 2 = .ok (.iload_n 1, 1) := by decide +kernel
theorem dX10_save_3 : decode cX10_save 3 = .ok (.bipush 6, 2) := by decide +kernel
theorem dX10_save_5 : decode cX10_save 5 = .ok (.if_icmp .ge 21, 3) := by decide +kernel
theorem dX10_save_8 : decode cX10_save 8 = .ok (.aload_n 0, 1) := by decide +kernel
theorem dX10_save_9 : decode cX10_save 9 = .ok (.getfield 53, 3) := by decide +kernel
theorem dX10_save_12 : decode cX10_save 12 = .ok (.iload_n 1, 1) := by decide +kernel
theorem dX10_save_13 : decode cX10_save 13 = .ok (.aload_n 0, 1) := by decide +kernel
theorem dX10_save_14 : decode cX10_save 14 = .ok (.getfield 22, 3) := by decide +kernel
theorem dX10_save_17 : decode cX10_save 17 = .ok (.iload_n 1, 1) := by decide +kernel
theorem dX10_save_18 : decode cX10_save 18 = .ok (.iaload, 1) := by decide +kernel
theorem dX10_save_19 : decode cX10_save 19 = .ok (.iastore, 1) := by decide +kernel
theorem dX10_save_20 : decode cX10_save 20 = .ok (.iinc 1 1, 3) := by decide +kernel
theorem dX10_save_23 : decode cX10_save 23 = .ok (.goto (-21), 3) := by decide +kernel
theorem dX10_save_26 : decode cX10_save 26 = .ok (.return_, 1) := by decide +kernel
theorem dX10_putBack_0 : decode cX10_putBack 0 = .ok (.iconst 0, 1) := by decide +kernel
theorem dX10_putBack_1 : decode cX10_putBack 1 = .ok (.istore_n 1, 1) := by decide +kernel
theorem dX10_putBack_2 : decode cX10_putBack 2 = .ok (.iload_n 1, 1) := by decide +kernel
theorem dX10_putBack_3 : decode cX10_putBack 3 = .ok (.bipush 6, 2) := by decide +kernel
theorem dX10_putBack_5 : decode cX10_putBack 5 = .ok (.if_icmp .ge 21, 3) := by decide +kernel
theorem dX10_putBack_8 : decode cX10_putBack 8 = .ok (.aload_n 0, 1) := by decide +kernel
theorem dX10_putBack_9 : decode cX10_putBack 9 = .ok (.getfield 22, 3) := by decide +kernel
theorem dX10_putBack_12 : decode cX10_putBack 12 = .ok (.iload_n 1, 1) := by decide +kernel
theorem dX10_putBack_13 : decode cX10_putBack 13 = .ok (.aload_n 0, 1) := by decide +kernel
theorem dX10_putBack_14 : decode cX10_putBack 14 = .ok (.getfield 53, 3) := by decide +kernel
theorem dX10_putBack_17 : decode cX10_putBack 17 = .ok (.iload_n 1, 1) := by decide +kernel
theorem dX10_putBack_18 : decode cX10_putBack 18 = .ok (.iaload, 1) := by decide +kernel
theorem dX10_putBack_19 : decode cX10_putBack 19 = .ok (.iastore, 1) := by decide +kernel
theorem dX10_putBack_20 : decode cX10_putBack 20 = .ok (.iinc 1 1, 3) := by decide +kernel
theorem dX10_putBack_23 : decode cX10_putBack 23 = .ok (.goto (-21), 3) := by decide +kernel
theorem dX10_putBack_26 : decode cX10_putBack 26 = .ok (.return_, 1) := by decide +kernel
theorem dX10_behindRow_0 : decode cX10_behindRow 0 = .ok (.iconst 0, 1) := by decide +kernel
theorem dX10_behindRow_1 : decode cX10_behindRow 1 = .ok (.istore_n 1, 1) := by decide +kernel
theorem dX10_behindRow_2 : decode cX10_behindRow 2 = .ok (.iconst 0, 1) := by decide +kernel
theorem dX10_behindRow_3 : decode cX10_behindRow 3 = .ok (.istore_n 2, 1) := by decide +kernel
theorem dX10_behindRow_4 : decode cX10_behindRow 4 = .ok (.iload_n 2, 1) := by decide +kernel
theorem dX10_behindRow_5 : decode cX10_behindRow 5 = .ok (.aload_n 0, 1) := by decide +kernel
theorem dX10_behindRow_6 : decode cX10_behindRow 6 = .ok (.getfield 81, 3) := by decide +kernel
theorem dX10_behindRow_9 : decode cX10_behindRow 9 = .ok (.if_icmp .ge 25, 3) := by decide +kernel
theorem dX10_behindRow_12 : decode cX10_behindRow 12 = .ok (.iload_n 1, 1) := by decide +kernel
theorem dX10_behindRow_13 : decode cX10_behindRow 13 = .ok (.aload_n 0, 1) := by decide +kernel
theorem dX10_behindRow_14 : decode cX10_behindRow 14 = .ok (.iconst 1, 1) := by decide +kernel
theorem dX10_behindRow_15 : decode cX10_behindRow 15 = .ok (.aload_n 0, 1) := by decide +kernel
theorem dX10_behindRow_16 : decode cX10_behindRow 16 = .ok (.getfield 56, 3) := by decide +kernel
theorem dX10_behindRow_19 : decode cX10_behindRow 19 = .ok (.iload_n 2, 1) := by decide +kernel
theorem dX10_behindRow_20 : decode cX10_behindRow 20 = .ok (.iaload, 1) := by decide +kernel
theorem dX10_behindRow_21 : decode cX10_behindRow 21 = .ok (.ishl, 1) := by decide +kernel
theorem dX10_behindRow_22 : decode cX10_behindRow 22 = .ok (.iconst 0, 1) := by decide +kernel
theorem dX10_behindRow_23 : decode cX10_behindRow 23 = .ok (.invokevirtual 186, 3) := by decide +kernel
theorem dX10_behindRow_26 : decode cX10_behindRow 26 = .ok (.ior, 1) := by decide +kernel
theorem dX10_behindRow_27 : decode cX10_behindRow 27 = .ok (.istore_n 1, 1) := by decide +kernel
theorem dX10_behindRow_28 : decode cX10_behindRow 28 = .ok (.iinc 2 1, 3) := by decide +kernel
theorem dX10_behindRow_31 : decode cX10_behindRow 31 = .ok (.goto (-27), 3) := by decide +kernel
theorem dX10_behindRow_34 : decode cX10_behindRow 34 = .ok (.iconst 0, 1) := by decide +kernel
theorem dX10_behindRow_35 : decode cX10_behindRow 35 = .ok (.istore_n 2, 1) := by decide +kernel
theorem dX10_behindRow_36 : decode cX10_behindRow 36 = .ok (.iconst 0, 1) := by decide +kernel
theorem dX10_behindRow_37 : decode cX10_behindRow 37 = .ok (.istore_n 3, 1) := by decide +kernel
theorem dX10_behindRow_38 : decode cX10_behindRow 38 = .ok (.iload_n 3, 1) := by decide +kernel
theorem dX10_behindRow_39 : decode cX10_behindRow 39 = .ok (.aload_n 0, 1) := by decide +kernel
theorem dX10_behindRow_40 : decode cX10_behindRow 40 = .ok (.getfield 84, 3) := by decide +kernel
theorem dX10_behindRow_43 : decode cX10_behindRow 43 = .ok (.if_icmp .ge 20, 3) := by decide +kernel
theorem dX10_behindRow_46 : decode cX10_behindRow 46 = .ok (.iload_n 2, 1) := by decide +kernel
theorem dX10_behindRow_47 : decode cX10_behindRow 47 = .ok (.aload_n 0, 1) := by decide +kernel
theorem dX10_behindRow_48 : decode cX10_behindRow 48 = .ok (.getfield 22, 3) := by decide +kernel
theorem dX10_behindRow_51 : decode cX10_behindRow 51 = .ok (.iload_n 3, 1) := by decide +kernel
theorem dX10_behindRow_52 : decode cX10_behindRow 52 = .ok (.iaload, 1) := by decide +kernel
theorem dX10_behindRow_53 : decode cX10_behindRow 53 = .ok (.invokestatic 180, 3) := by decide +kernel
theorem dX10_behindRow_56 : decode cX10_behindRow 56 = .ok (.istore_n 2, 1) := by decide +kernel
theorem dX10_behindRow_57 : decode cX10_behindRow 57 = .ok (.iinc 3 1, 3) := by decide +kernel
theorem dX10_behindRow_60 : decode cX10_behindRow 60 = .ok (.goto (-22), 3) := by decide +kernel
theorem dX10_behindRow_63 : decode cX10_behindRow 63 = .ok (.aload_n 0, 1) := by decide +kernel
theorem dX10_behindRow_64 : decode cX10_behindRow 64 = .ok (.invokevirtual 232, 3) := by decide +kernel
theorem dX10_behindRow_67 : decode cX10_behindRow 67 = .ok (.iload_n 1, 1) := by decide +kernel
theorem dX10_behindRow_68 : decode cX10_behindRow 68 = .ok (.ifCond .ne 7, 3) := by decide +kernel
theorem dX10_behindRow_71 : decode cX10_behindRow 71 = .ok (.iload_n 2, 1) := by decide +kernel
theorem dX10_behindRow_72 : decode cX10_behindRow 72 = .ok (.goto 4, 3) := by decide +kernel
theorem dX10_behindRow_75 : decode cX10_behindRow 75 = .ok (.iconst (-1), 1) := by decide +kernel
theorem dX10_behindRow_76 : decode cX10_behindRow 76 = .ok (.ireturn, 1) := by decide +kernel
theorem dX10_nextRow_0 : decode cX10_nextRow 0 = .ok (.aload_n 0, 1) := by decide +kernel
theorem dX10_nextRow_1 : decode cX10_nextRow 1 = .ok (.getfield 81, 3) := by decide +kernel
theorem dX10_nextRow_4 : decode cX10_nextRow 4 = .ok (.iconst 1, 1) := by decide +kernel
theorem dX10_nextRow_5 : decode cX10_nextRow 5 = .ok (.isub, 1) := by decide +kernel
theorem dX10_nextRow_6 : decode cX10_nextRow 6 = .ok (.istore_n 1, 1) := by decide +kernel
theorem dX10_nextRow_7 : decode cX10_nextRow 7 = .ok (.iload_n 1, 1) := by decide +kernel
theorem dX10_nextRow_8 : decode cX10_nextRow 8 = .ok (.ifCond .lt 31, 3) := by decide +kernel
theorem dX10_nextRow_11 : decode cX10_nextRow 11 = .ok (.aload_n 0, 1) := by decide +kernel
theorem dX10_nextRow_12 : decode cX10_nextRow 12 = .ok (.getfield 56, 3) := by decide +kernel
theorem dX10_nextRow_15 : decode cX10_nextRow 15 = .ok (.iload_n 1, 1) := by decide +kernel
theorem dX10_nextRow_16 : decode cX10_nextRow 16 = .ok (.iaload, 1) := by decide +kernel
theorem dX10_nextRow_17 : decode cX10_nextRow 17 = .ok (.aload_n 0, 1) := by decide +kernel
theorem dX10_nextRow_18 : decode cX10_nextRow 18 = .ok (.getfield 84, 3) := by decide +kernel
theorem dX10_nextRow_21 : decode cX10_nextRow 21 = .ok (.iconst 1, 1) := by decide +kernel
theorem dX10_nextRow_22 : decode cX10_nextRow 22 = .ok (.isub, 1) := by decide +kernel
theorem dX10_nextRow_23 : decode cX10_nextRow 23 = .ok (.if_icmp .ne 16, 3) := by decide +kernel
theorem dX10_nextRow_26 : decode cX10_nextRow 26 = .ok (.aload_n 0, 1) := by decide +kernel
theorem dX10_nextRow_27 : decode cX10_nextRow 27 = .ok (.getfield 56, 3) := by decide +kernel
theorem dX10_nextRow_30 : decode cX10_nextRow 30 = .ok (.iload_n 1, 1) := by decide +kernel
theorem dX10_nextRow_31 : decode cX10_nextRow 31 = .ok (.iconst 0, 1) := by decide +kernel
theorem dX10_nextRow_32 : decode cX10_nextRow 32 = .ok (.iastore, 1) := by decide +kernel
theorem dX10_nextRow_33 : decode cX10_nextRow 33 = .ok (.iinc 1 (-1), 3) := by decide +kernel
theorem dX10_nextRow_36 : decode cX10_nextRow 36 = .ok (.goto (-29), 3) := by decide +kernel
theorem dX10_nextRow_39 : decode cX10_nextRow 39 = .ok (.iload_n 1, 1) := by decide +kernel
theorem dX10_nextRow_40 : decode cX10_nextRow 40 = .ok (.ifCond .lt 13, 3) := by decide +kernel
theorem dX10_nextRow_43 : decode cX10_nextRow 43 = .ok (.aload_n 0, 1) := by decide +kernel
theorem dX10_nextRow_44 : decode cX10_nextRow 44 = .ok (.getfield 56, 3) := by decide +kernel
theorem dX10_nextRow_47 : decode cX10_nextRow 47 = .ok (.iload_n 1, 1) := by decide +kernel
theorem dX10_nextRow_48 : decode cX10_nextRow 48 = .ok (.dup2, 1) := by decide +kernel
theorem dX10_nextRow_49 : decode cX10_nextRow 49 = .ok (.iaload, 1) := by decide +kernel
theorem dX10_nextRow_50 : decode cX10_nextRow 50 = .ok (.iconst 1, 1) := by decide +kernel
theorem dX10_nextRow_51 : decode cX10_nextRow 51 = .ok (.iadd, 1) := by decide +kernel
theorem dX10_nextRow_52 : decode cX10_nextRow 52 = .ok (.iastore, 1) := by decide +kernel
theorem dX10_nextRow_53 : decode cX10_nextRow 53 = .ok (.iload_n 1, 1) := by decide +kernel
theorem dX10_nextRow_54 : decode cX10_nextRow 54 = .ok (.ifCond .lt 7, 3) := by decide +kernel
theorem dX10_nextRow_57 : decode cX10_nextRow 57 = .ok (.iconst 1, 1) := by decide +kernel
theorem dX10_nextRow_58 : decode cX10_nextRow 58 = .ok (.goto 4, 3) := by decide +kernel
theorem dX10_nextRow_61 : decode cX10_nextRow 61 = .ok (.iconst 0, 1) := by decide +kernel
theorem dX10_nextRow_62 : decode cX10_nextRow 62 = .ok (.ireturn, 1) := by decide +kernel
theorem dX10_findWatches_0 : decode cX10_findWatches 0 = .ok (.aload_n 0, 1) := by decide +kernel
theorem dX10_findWatches_1 : decode cX10_findWatches 1 = .ok (.invokevirtual 235, 3) := by decide +kernel
theorem dX10_findWatches_4 : decode cX10_findWatches 4 = .ok (.aload_n 0, 1) := by decide +kernel
theorem dX10_findWatches_5 : decode cX10_findWatches 5 = .ok (.iconst (-1), 1) := by decide +kernel
theorem dX10_findWatches_6 : decode cX10_findWatches 6 = .ok (.putfield 238, 3) := by decide +kernel
theorem dX10_findWatches_9 : decode cX10_findWatches 9 = .ok (.iconst 0, 1) := by decide +kernel
theorem dX10_findWatches_10 : decode cX10_findWatches 10 = .ok (.istore_n 1, 1) := by decide +kernel
theorem dX10_findWatches_11 : decode cX10_findWatches 11 = .ok (.iload_n 1, 1) := by decide +kernel
theorem dX10_findWatches_12 : decode cX10_findWatches 12 = .ok (.bipush 6, 2) := by decide +kernel
theorem dX10_findWatches_14 : decode cX10_findWatches 14 = .ok (.if_icmp .ge 16, 3) := by decide +kernel
theorem dX10_findWatches_17 : decode cX10_findWatches 17 = .ok (.aload_n 0, 1) := by decide +kernel
theorem dX10_findWatches_18 : decode cX10_findWatches 18 = .ok (.getfield 56, 3) := by decide +kernel
theorem dX10_findWatches_21 : decode cX10_findWatches 21 = .ok (.iload_n 1, 1) := by decide +kernel
theorem dX10_findWatches_22 : decode cX10_findWatches 22 = .ok (.iconst 0, 1) := by decide +kernel
theorem dX10_findWatches_23 : decode cX10_findWatches 23 = .ok (.iastore, 1) := by decide +kernel
theorem dX10_findWatches_24 : decode cX10_findWatches 24 = .ok (.iinc 1 1, 3) := by decide +kernel
theorem dX10_findWatches_27 : decode cX10_findWatches 27 = .ok (.goto (-16), 3) := by decide +kernel
theorem dX10_findWatches_30 : decode cX10_findWatches 30 = .ok (.aload_n 0, 1) := by decide +kernel
theorem dX10_findWatches_31 : decode cX10_findWatches 31 = .ok (.getfield 84, 3) := by decide +kernel
theorem dX10_findWatches_34 : decode cX10_findWatches 34 = .ok (.ifCond .le 7, 3) := by decide +kernel
theorem dX10_findWatches_37 : decode cX10_findWatches 37 = .ok (.iconst 1, 1) := by decide +kernel
theorem dX10_findWatches_38 : decode cX10_findWatches 38 = .ok (.goto 4, 3) := by decide +kernel
theorem dX10_findWatches_41 : decode cX10_findWatches 41 = .ok (.iconst 0, 1) := by decide +kernel
theorem dX10_findWatches_42 : decode cX10_findWatches 42 = .ok (.istore_n 1, 1) := by decide +kernel
theorem dX10_findWatches_43 : decode cX10_findWatches 43 = .ok (.iload_n 1, 1) := by decide +kernel
theorem dX10_findWatches_44 : decode cX10_findWatches 44 = .ok (.ifCond .eq 68, 3) := by decide +kernel
theorem dX10_findWatches_47 : decode cX10_findWatches 47 = .ok (.aload_n 0, 1) := by decide +kernel
theorem dX10_findWatches_48 : decode cX10_findWatches 48 = .ok (.invokevirtual 241, 3) := by decide +kernel
theorem dX10_findWatches_51 : decode cX10_findWatches 51 = .ok (.istore_n 2, 1) := by decide +kernel
theorem dX10_findWatches_52 : decode cX10_findWatches 52 = .ok (.iload_n 2, 1) := by decide +kernel
theorem dX10_findWatches_53 : decode cX10_findWatches 53 = .ok (.ifCond .lt 51, 3) := by decide +kernel
theorem dX10_findWatches_56 : decode cX10_findWatches 56 = .ok (.aload_n 0, 1) := by decide +kernel
theorem dX10_findWatches_57 : decode cX10_findWatches 57 = .ok (.getfield 238, 3) := by decide +kernel
theorem dX10_findWatches_60 : decode cX10_findWatches 60 = .ok (.ifCond .lt 11, 3) := by decide +kernel
theorem dX10_findWatches_63 : decode cX10_findWatches 63 = .ok (.iload_n 2, 1) := by decide +kernel
theorem dX10_findWatches_64 : decode cX10_findWatches 64 = .ok (.aload_n 0, 1) := by decide +kernel
theorem dX10_findWatches_65 : decode cX10_findWatches 65 = .ok (.getfield 238, 3) := by decide +kernel
theorem dX10_findWatches_68 : decode cX10_findWatches 68 = .ok (.if_icmp .ge 36, 3) := by decide +kernel
theorem dX10_findWatches_71 : decode cX10_findWatches 71 = .ok (.aload_n 0, 1) := by decide +kernel
theorem dX10_findWatches_72 : decode cX10_findWatches 72 = .ok (.iload_n 2, 1) := by decide +kernel
theorem dX10_findWatches_73 : decode cX10_findWatches 73 = .ok (.putfield 238, 3) := by decide +kernel
theorem dX10_findWatches_76 : decode cX10_findWatches 76 = .ok (.iconst 0, 1) := by decide +kernel
theorem dX10_findWatches_77 : decode cX10_findWatches 77 = .ok (.istore_n 3, 1) := by decide +kernel
theorem dX10_findWatches_78 : decode cX10_findWatches 78 = .ok (.iload_n 3, 1) := by decide +kernel
theorem dX10_findWatches_79 : decode cX10_findWatches 79 = .ok (.aload_n 0, 1) := by decide +kernel
theorem dX10_findWatches_80 : decode cX10_findWatches 80 = .ok (.getfield 81, 3) := by decide +kernel
theorem dX10_findWatches_83 : decode cX10_findWatches 83 = .ok (.if_icmp .ge 21, 3) := by decide +kernel
theorem dX10_findWatches_86 : decode cX10_findWatches 86 = .ok (.aload_n 0, 1) := by decide +kernel
theorem dX10_findWatches_87 : decode cX10_findWatches 87 = .ok (.getfield 59, 3) := by decide +kernel
theorem dX10_findWatches_90 : decode cX10_findWatches 90 = .ok (.iload_n 3, 1) := by decide +kernel
theorem dX10_findWatches_91 : decode cX10_findWatches 91 = .ok (.aload_n 0, 1) := by decide +kernel
theorem dX10_findWatches_92 : decode cX10_findWatches 92 = .ok (.getfield 56, 3) := by decide +kernel
theorem dX10_findWatches_95 : decode cX10_findWatches 95 = .ok (.iload_n 3, 1) := by decide +kernel
theorem dX10_findWatches_96 : decode cX10_findWatches 96 = .ok (.iaload, 1) := by decide +kernel
theorem dX10_findWatches_97 : decode cX10_findWatches 97 = .ok (.iastore, 1) := by decide +kernel
theorem dX10_findWatches_98 : decode cX10_findWatches 98 = .ok (.iinc 3 1, 3) := by decide +kernel
theorem dX10_findWatches_101 : decode cX10_findWatches 101 = .ok (.goto (-23), 3) := by decide +kernel
theorem dX10_findWatches_104 : decode cX10_findWatches 104 = .ok (.aload_n 0, 1) := by decide +kernel
theorem dX10_findWatches_105 : decode cX10_findWatches 105 = .ok (.invokevirtual 244, 3) := by decide +kernel
theorem dX10_findWatches_108 : decode cX10_findWatches 108 = .ok (.istore_n 1, 1) := by decide +kernel
theorem dX10_findWatches_109 : decode cX10_findWatches 109 = .ok (.goto (-66), 3) := by decide +kernel
theorem dX10_findWatches_112 : decode cX10_findWatches 112 = .ok (.return_, 1) := by decide +kernel
theorem dX10_watches_0 : decode cX10_watches 0 = .ok (.aload_n 0, 1) := by decide +kernel
theorem dX10_watches_1 : decode cX10_watches 1 = .ok (.getfield 81, 3) := by decide +kernel
theorem dX10_watches_4 : decode cX10_watches 4 = .ok (.ifCond .ne 6, 3) := by decide +kernel
theorem dX10_watches_7 : decode cX10_watches 7 = .ok (.ldc 205, 2) := by decide +kernel
theorem dX10_watches_9 : decode cX10_watches 9 = .ok (.ireturn, 1) := by decide +kernel
theorem dX10_watches_10 : decode cX10_watches 10 = .ok (.aload_n 0, 1) := by decide +kernel
theorem dX10_watches_11 : decode cX10_watches 11 = .ok (.invokevirtual 248, 3) := by decide +kernel
theorem dX10_watches_14 : decode cX10_watches 14 = .ok (.aload_n 0, 1) := by decide +kernel
theorem dX10_watches_15 : decode cX10_watches 15 = .ok (.getfield 238, 3) := by decide +kernel
theorem dX10_watches_18 : decode cX10_watches 18 = .ok (.ifCond .lt 8, 3) := by decide +kernel
theorem dX10_watches_21 : decode cX10_watches 21 = .ok (.iload_n 1, 1) := by decide +kernel
theorem dX10_watches_22 : decode cX10_watches 22 = .ok (.iconst (-1), 1) := by decide +kernel
theorem dX10_watches_23 : decode cX10_watches 23 = .ok (.if_icmp .ne 10, 3) := by decide +kernel
theorem dX10_watches_26 : decode cX10_watches 26 = .ok (.aload_n 0, 1) := by decide +kernel
theorem dX10_watches_27 : decode cX10_watches 27 = .ok (.getfield 238, 3) := by decide +kernel
theorem dX10_watches_30 : decode cX10_watches 30 = .ok (.goto 29, 3) := by decide +kernel
theorem dX10_watches_33 : decode cX10_watches 33 = .ok (.iload_n 1, 1) := by decide +kernel
theorem dX10_watches_34 : decode cX10_watches 34 = .ok (.i2l, 1) := by decide +kernel
theorem dX10_watches_35 : decode cX10_watches 35 = .ok (.lconst 0, 1) := by decide +kernel
theorem dX10_watches_36 : decode cX10_watches 36 = .ok (.aload_n 0, 1) := by decide +kernel
theorem dX10_watches_37 : decode cX10_watches 37 = .ok (.getfield 81, 3) := by decide +kernel
theorem dX10_watches_40 : decode cX10_watches 40 = .ok (.iconst 1, 1) := by decide +kernel
theorem dX10_watches_41 : decode cX10_watches 41 = .ok (.isub, 1) := by decide +kernel
theorem dX10_watches_42 : decode cX10_watches 42 = .ok (.i2l, 1) := by decide +kernel
theorem dX10_watches_43 : decode cX10_watches 43 = .ok (.invokestatic 87, 3) := by decide +kernel
theorem dX10_watches_46 : decode cX10_watches 46 = .ok (.ifCond .eq 12, 3) := by decide +kernel
theorem dX10_watches_49 : decode cX10_watches 49 = .ok (.aload_n 0, 1) := by decide +kernel
theorem dX10_watches_50 : decode cX10_watches 50 = .ok (.getfield 59, 3) := by decide +kernel
theorem dX10_watches_53 : decode cX10_watches 53 = .ok (.iload_n 1, 1) := by decide +kernel
theorem dX10_watches_54 : decode cX10_watches 54 = .ok (.iaload, 1) := by decide +kernel
theorem dX10_watches_55 : decode cX10_watches 55 = .ok (.goto 4, 3) := by decide +kernel
theorem dX10_watches_58 : decode cX10_watches 58 = .ok (.iconst (-1), 1) := by decide +kernel
theorem dX10_watches_59 : decode cX10_watches 59 = .ok (.ireturn, 1) := by decide +kernel
theorem dX10_nodsOfAll_0 : decode cX10_nodsOfAll 0 = .ok (.iconst 0, 1) := by decide +kernel
theorem dX10_nodsOfAll_1 : decode cX10_nodsOfAll 1 = .ok (.istore_n 2, 1) := by decide +kernel
theorem dX10_nodsOfAll_2 : decode cX10_nodsOfAll 2 = .ok (.iconst 0, 1) := by decide +kernel
theorem dX10_nodsOfAll_3 : decode cX10_nodsOfAll 3 = .ok (.istore_n 3, 1) := by decide +kernel
theorem dX10_nodsOfAll_4 : decode cX10_nodsOfAll 4 = .ok (.iload_n 3, 1) := by decide +kernel
theorem dX10_nodsOfAll_5 : decode cX10_nodsOfAll 5 = .ok (.aload_n 0, 1) := by decide +kernel
theorem dX10_nodsOfAll_6 : decode cX10_nodsOfAll 6 = .ok (.getfield 81, 3) := by decide +kernel
theorem dX10_nodsOfAll_9 : decode cX10_nodsOfAll 9 = .ok (.if_icmp .ge 37, 3) := by decide +kernel
theorem dX10_nodsOfAll_12 : decode cX10_nodsOfAll 12 = .ok (.iload_n 2, 1) := by decide +kernel
theorem dX10_nodsOfAll_13 : decode cX10_nodsOfAll 13 = .ok (.aload_n 0, 1) := by decide +kernel
theorem dX10_nodsOfAll_14 : decode cX10_nodsOfAll 14 = .ok (.iconst 1, 1) := by decide +kernel
theorem dX10_nodsOfAll_15 : decode cX10_nodsOfAll 15 = .ok (.aload_n 0, 1) := by decide +kernel
theorem dX10_nodsOfAll_16 : decode cX10_nodsOfAll 16 = .ok (.getfield 84, 3) := by decide +kernel
theorem dX10_nodsOfAll_19 : decode cX10_nodsOfAll 19 = .ok (.ishl, 1) := by decide +kernel
theorem dX10_nodsOfAll_20 : decode cX10_nodsOfAll 20 = .ok (.iconst 1, 1) := by decide +kernel
theorem dX10_nodsOfAll_21 : decode cX10_nodsOfAll 21 = .ok (.isub, 1) := by decide +kernel
theorem dX10_nodsOfAll_22 : decode cX10_nodsOfAll 22 = .ok (.iload_n 3, 1) := by decide +kernel
theorem dX10_nodsOfAll_23 : decode cX10_nodsOfAll 23 = .ok (.iload_n 1, 1) := by decide +kernel
theorem dX10_nodsOfAll_24 : decode cX10_nodsOfAll 24 = .ok (.if_icmp .ne 7, 3) := by decide +kernel
theorem dX10_nodsOfAll_27 : decode cX10_nodsOfAll 27 = .ok (.iconst 1, 1) := by decide +kernel
theorem dX10_nodsOfAll_28 : decode cX10_nodsOfAll 28 = .ok (.goto 4, 3) := by decide +kernel
theorem dX10_nodsOfAll_31 : decode cX10_nodsOfAll 31 = .ok (.iconst 0, 1) := by decide +kernel
theorem dX10_nodsOfAll_32 : decode cX10_nodsOfAll 32 = .ok (.invokevirtual 186, 3) := by decide +kernel
theorem dX10_nodsOfAll_35 : decode cX10_nodsOfAll 35 = .ok (.invokestatic 195, 3) := by decide +kernel
theorem dX10_nodsOfAll_38 : decode cX10_nodsOfAll 38 = .ok (.iadd, 1) := by decide +kernel
theorem dX10_nodsOfAll_39 : decode cX10_nodsOfAll 39 = .ok (.istore_n 2, 1) := by decide +kernel
theorem dX10_nodsOfAll_40 : decode cX10_nodsOfAll 40 = .ok (.iinc 3 1, 3) := by decide +kernel
theorem dX10_nodsOfAll_43 : decode cX10_nodsOfAll 43 = .ok (.goto (-39), 3) := by decide +kernel
theorem dX10_nodsOfAll_46 : decode cX10_nodsOfAll 46 = .ok (.aload_n 0, 1) := by decide +kernel
theorem dX10_nodsOfAll_47 : decode cX10_nodsOfAll 47 = .ok (.invokevirtual 232, 3) := by decide +kernel
theorem dX10_nodsOfAll_50 : decode cX10_nodsOfAll 50 = .ok (.iload_n 2, 1) := by decide +kernel
theorem dX10_nodsOfAll_51 : decode cX10_nodsOfAll 51 = .ok (.ireturn, 1) := by decide +kernel
theorem dX10_bellHour_0 : decode cX10_bellHour 0 = .ok (.iload_n 1, 1) := by decide +kernel
theorem dX10_bellHour_1 : decode cX10_bellHour 1 = .ok (.i2l, 1) := by decide +kernel
theorem dX10_bellHour_2 : decode cX10_bellHour 2 = .ok (.lconst 0, 1) := by decide +kernel
theorem dX10_bellHour_3 : decode cX10_bellHour 3 = .ok (.lconst 1, 1) := by decide +kernel
theorem dX10_bellHour_4 : decode cX10_bellHour 4 = .ok (.invokestatic 87, 3) := by decide +kernel
theorem dX10_bellHour_7 : decode cX10_bellHour 7 = .ok (.ifCond .ne 6, 3) := by decide +kernel
theorem dX10_bellHour_10 : decode cX10_bellHour 10 = .ok (.ldc 96, 2) := by decide +kernel
theorem dX10_bellHour_12 : decode cX10_bellHour 12 = .ok (.ireturn, 1) := by decide +kernel
theorem dX10_bellHour_13 : decode cX10_bellHour 13 = .ok (.aload_n 0, 1) := by decide +kernel
theorem dX10_bellHour_14 : decode cX10_bellHour 14 = .ok (.getfield 81, 3) := by decide +kernel
theorem dX10_bellHour_17 : decode cX10_bellHour 17 = .ok (.ifCond .ne 6, 3) := by decide +kernel
theorem dX10_bellHour_20 : decode cX10_bellHour 20 = .ok (.ldc 205, 2) := by decide +kernel
theorem dX10_bellHour_22 : decode cX10_bellHour 22 = .ok (.ireturn, 1) := by decide +kernel
theorem dX10_bellHour_23 : decode cX10_bellHour 23 = .ok (.aload_n 0, 1) := by decide +kernel
theorem dX10_bellHour_24 : decode cX10_bellHour 24 = .ok (.invokevirtual 235, 3) := by decide +kernel
theorem dX10_bellHour_27 : decode cX10_bellHour 27 = .ok (.iconst 0, 1) := by decide +kernel
theorem dX10_bellHour_28 : decode cX10_bellHour 28 = .ok (.istore_n 2, 1) := by decide +kernel
theorem dX10_bellHour_29 : decode cX10_bellHour 29 = .ok (.ldc 251, 2) := by decide +kernel
theorem dX10_bellHour_31 : decode cX10_bellHour 31 = .ok (.istore_n 3, 1) := by decide +kernel
theorem dX10_bellHour_32 : decode cX10_bellHour 32 = .ok (.iconst 0, 1) := by decide +kernel
theorem dX10_bellHour_33 : decode cX10_bellHour 33 = .ok (.istore 4, 2) := by decide +kernel
theorem dX10_bellHour_35 : decode cX10_bellHour 35 = .ok (.iload 4, 2) := by decide +kernel
theorem dX10_bellHour_37 : decode cX10_bellHour 37 = .ok (.aload_n 0, 1) := by decide +kernel
theorem dX10_bellHour_38 : decode cX10_bellHour 38 = .ok (.getfield 81, 3) := by decide +kernel
theorem dX10_bellHour_41 : decode cX10_bellHour 41 = .ok (.if_icmp .ge 43, 3) := by decide +kernel
theorem dX10_bellHour_44 : decode cX10_bellHour 44 = .ok (.aload_n 0, 1) := by decide +kernel
theorem dX10_bellHour_45 : decode cX10_bellHour 45 = .ok (.iload 4, 2) := by decide +kernel
theorem dX10_bellHour_47 : decode cX10_bellHour 47 = .ok (.invokevirtual 252, 3) := by decide +kernel
theorem dX10_bellHour_50 : decode cX10_bellHour 50 = .ok (.istore 5, 2) := by decide +kernel
theorem dX10_bellHour_52 : decode cX10_bellHour 52 = .ok (.iload 5, 2) := by decide +kernel
theorem dX10_bellHour_54 : decode cX10_bellHour 54 = .ok (.iload_n 3, 1) := by decide +kernel
theorem dX10_bellHour_55 : decode cX10_bellHour 55 = .ok (.if_icmp .ge 8, 3) := by decide +kernel
theorem dX10_bellHour_58 : decode cX10_bellHour 58 = .ok (.iload 4, 2) := by decide +kernel
theorem dX10_bellHour_60 : decode cX10_bellHour 60 = .ok (.goto 4, 3) := by decide +kernel
theorem dX10_bellHour_63 : decode cX10_bellHour 63 = .ok (.iload_n 2, 1) := by decide +kernel
theorem dX10_bellHour_64 : decode cX10_bellHour 64 = .ok (.istore_n 2, 1) := by decide +kernel
theorem dX10_bellHour_65 : decode cX10_bellHour 65 = .ok (.iload 5, 2) := by decide +kernel
theorem dX10_bellHour_67 : decode cX10_bellHour 67 = .ok (.iload_n 3, 1) := by decide +kernel
theorem dX10_bellHour_68 : decode cX10_bellHour 68 = .ok (.if_icmp .ge 8, 3) := by decide +kernel
theorem dX10_bellHour_71 : decode cX10_bellHour 71 = .ok (.iload 5, 2) := by decide +kernel
theorem dX10_bellHour_73 : decode cX10_bellHour 73 = .ok (.goto 4, 3) := by decide +kernel
theorem dX10_bellHour_76 : decode cX10_bellHour 76 = .ok (.iload_n 3, 1) := by decide +kernel
theorem dX10_bellHour_77 : decode cX10_bellHour 77 = .ok (.istore_n 3, 1) := by decide +kernel
theorem dX10_bellHour_78 : decode cX10_bellHour 78 = .ok (.iinc 4 1, 3) := by decide +kernel
theorem dX10_bellHour_81 : decode cX10_bellHour 81 = .ok (.goto (-46), 3) := by decide +kernel
theorem dX10_bellHour_84 : decode cX10_bellHour 84 = .ok (.iload_n 1, 1) := by decide +kernel
theorem dX10_bellHour_85 : decode cX10_bellHour 85 = .ok (.ifCond .ne 7, 3) := by decide +kernel
theorem dX10_bellHour_88 : decode cX10_bellHour 88 = .ok (.iload_n 2, 1) := by decide +kernel
theorem dX10_bellHour_89 : decode cX10_bellHour 89 = .ok (.goto 4, 3) := by decide +kernel
theorem dX10_bellHour_92 : decode cX10_bellHour 92 = .ok (.iload_n 3, 1) := by decide +kernel
theorem dX10_bellHour_93 : decode cX10_bellHour 93 = .ok (.ireturn, 1) := by decide +kernel
theorem dX10_coffeeFor_0 : decode cX10_coffeeFor 0 = .ok (.aload_n 0, 1) := by decide +kernel
theorem dX10_coffeeFor_1 : decode cX10_coffeeFor 1 = .ok (.getfield 81, 3) := by decide +kernel
theorem dX10_coffeeFor_4 : decode cX10_coffeeFor 4 = .ok (.ifCond .ne 6, 3) := by decide +kernel
theorem dX10_coffeeFor_7 : decode cX10_coffeeFor 7 = .ok (.ldc 205, 2) := by decide +kernel
theorem dX10_coffeeFor_9 : decode cX10_coffeeFor 9 = .ok (.ireturn, 1) := by decide +kernel
theorem dX10_coffeeFor_10 : decode cX10_coffeeFor 10 = .ok (.aload_n 0, 1) := by decide +kernel
theorem dX10_coffeeFor_11 : decode cX10_coffeeFor 11 = .ok (.invokevirtual 235, 3) := by decide +kernel
theorem dX10_coffeeFor_14 : decode cX10_coffeeFor 14 = .ok (.iconst (-1), 1) := by decide +kernel
theorem dX10_coffeeFor_15 : decode cX10_coffeeFor 15 = .ok (.istore_n 1, 1) := by decide +kernel
theorem dX10_coffeeFor_16 : decode cX10_coffeeFor 16 = .ok (.ldc 251, 2) := by decide +kernel
theorem dX10_coffeeFor_18 : decode cX10_coffeeFor 18 = .ok (.istore_n 2, 1) := by decide +kernel
theorem dX10_coffeeFor_19 : decode cX10_coffeeFor 19 = .ok (.iconst 0, 1) := by decide +kernel
theorem dX10_coffeeFor_20 : decode cX10_coffeeFor 20 = .ok (.istore_n 3, 1) := by decide +kernel
theorem dX10_coffeeFor_21 : decode cX10_coffeeFor 21 = .ok (.iload_n 3, 1) := by decide +kernel
theorem dX10_coffeeFor_22 : decode cX10_coffeeFor 22 = .ok (.aload_n 0, 1) := by decide +kernel
theorem dX10_coffeeFor_23 : decode cX10_coffeeFor 23 = .ok (.getfield 84, 3) := by decide +kernel
theorem dX10_coffeeFor_26 : decode cX10_coffeeFor 26 = .ok (.if_icmp .ge 60, 3) := by decide +kernel
theorem dX10_coffeeFor_29 : decode cX10_coffeeFor 29 = .ok (.aload_n 0, 1) := by decide +kernel
theorem dX10_coffeeFor_30 : decode cX10_coffeeFor 30 = .ok (.getfield 22, 3) := by decide +kernel
theorem dX10_coffeeFor_33 : decode cX10_coffeeFor 33 = .ok (.iload_n 3, 1) := by decide +kernel
theorem dX10_coffeeFor_34 : decode cX10_coffeeFor 34 = .ok (.aload_n 0, 1) := by decide +kernel
theorem dX10_coffeeFor_35 : decode cX10_coffeeFor 35 = .ok (.getfield 22, 3) := by decide +kernel
theorem dX10_coffeeFor_38 : decode cX10_coffeeFor 38 = .ok (.iload_n 3, 1) := by decide +kernel
theorem dX10_coffeeFor_39 : decode cX10_coffeeFor 39 = .ok (.iaload, 1) := by decide +kernel
theorem dX10_coffeeFor_40 : decode cX10_coffeeFor 40 = .ok (.bipush 30, 2) := by decide +kernel
theorem dX10_coffeeFor_42 : decode cX10_coffeeFor 42 = .ok (.isub, 1) := by decide +kernel
theorem dX10_coffeeFor_43 : decode cX10_coffeeFor 43 = .ok (.iconst 0, 1) := by decide +kernel
theorem dX10_coffeeFor_44 : decode cX10_coffeeFor 44 = .ok (.invokestatic 180, 3) := by decide +kernel
theorem dX10_coffeeFor_47 : decode cX10_coffeeFor 47 = .ok (.iastore, 1) := by decide +kernel
theorem dX10_coffeeFor_48 : decode cX10_coffeeFor 48 = .ok (.aload_n 0, 1) := by decide +kernel
theorem dX10_coffeeFor_49 : decode cX10_coffeeFor 49 = .ok (.iconst (-1), 1) := by decide +kernel
theorem dX10_coffeeFor_50 : decode cX10_coffeeFor 50 = .ok (.invokevirtual 252, 3) := by decide +kernel
theorem dX10_coffeeFor_53 : decode cX10_coffeeFor 53 = .ok (.istore 4, 2) := by decide +kernel
theorem dX10_coffeeFor_55 : decode cX10_coffeeFor 55 = .ok (.iload 4, 2) := by decide +kernel
theorem dX10_coffeeFor_57 : decode cX10_coffeeFor 57 = .ok (.iload_n 2, 1) := by decide +kernel
theorem dX10_coffeeFor_58 : decode cX10_coffeeFor 58 = .ok (.if_icmp .ge 7, 3) := by decide +kernel
theorem dX10_coffeeFor_61 : decode cX10_coffeeFor 61 = .ok (.iload_n 3, 1) := by decide +kernel
theorem dX10_coffeeFor_62 : decode cX10_coffeeFor 62 = .ok (.goto 4, 3) := by decide +kernel
theorem dX10_coffeeFor_65 : decode cX10_coffeeFor 65 = .ok (.iload_n 1, 1) := by decide +kernel
theorem dX10_coffeeFor_66 : decode cX10_coffeeFor 66 = .ok (.istore_n 1, 1) := by decide +kernel
theorem dX10_coffeeFor_67 : decode cX10_coffeeFor 67 = .ok (.iload 4, 2) := by decide +kernel
theorem dX10_coffeeFor_69 : decode cX10_coffeeFor 69 = .ok (.iload_n 2, 1) := by decide +kernel
theorem dX10_coffeeFor_70 : decode cX10_coffeeFor 70 = .ok (.if_icmp .ge 8, 3) := by decide +kernel
theorem dX10_coffeeFor_73 : decode cX10_coffeeFor 73 = .ok (.iload 4, 2) := by decide +kernel
theorem dX10_coffeeFor_75 : decode cX10_coffeeFor 75 = .ok (.goto 4, 3) := by decide +kernel
theorem dX10_coffeeFor_78 : decode cX10_coffeeFor 78 = .ok (.iload_n 2, 1) := by decide +kernel
theorem dX10_coffeeFor_79 : decode cX10_coffeeFor 79 = .ok (.istore_n 2, 1) := by decide +kernel
theorem dX10_coffeeFor_80 : decode cX10_coffeeFor 80 = .ok (.iinc 3 1, 3) := by decide +kernel
theorem dX10_coffeeFor_83 : decode cX10_coffeeFor 83 = .ok (.goto (-62), 3) := by decide +kernel
theorem dX10_coffeeFor_86 : decode cX10_coffeeFor 86 = .ok (.iload_n 1, 1) := by decide +kernel
theorem dX10_coffeeFor_87 : decode cX10_coffeeFor 87 = .ok (.ireturn, 1) := by decide +kernel
theorem dX10_nights_0 : decode cX10_nights 0 = .ok (.aload_n 0, 1) := by decide +kernel
theorem dX10_nights_1 : decode cX10_nights 1 = .ok (.iload_n 1, 1) := by decide +kernel
theorem dX10_nights_2 : decode cX10_nights 2 = .ok (.invokevirtual 168, 3) := by decide +kernel
theorem dX10_nights_5 : decode cX10_nights 5 = .ok (.ifCond .ne 6, 3) := by decide +kernel
theorem dX10_nights_8 : decode cX10_nights 8 = .ok (.ldc 172, 2) := by decide +kernel
theorem dX10_nights_10 : decode cX10_nights 10 = .ok (.ireturn, 1) := by decide +kernel
theorem dX10_nights_11 : decode cX10_nights 11 = .ok (.aload_n 0, 1) := by decide +kernel
theorem dX10_nights_12 : decode cX10_nights 12 = .ok (.getfield 22, 3) := by decide +kernel
theorem dX10_nights_15 : decode cX10_nights 15 = .ok (.iload_n 1, 1) := by decide +kernel
theorem dX10_nights_16 : decode cX10_nights 16 = .ok (.iaload, 1) := by decide +kernel
theorem dX10_nights_17 : decode cX10_nights 17 = .ok (.istore_n 2, 1) := by decide +kernel
theorem dX10_nights_18 : decode cX10_nights 18 = .ok (.iconst 0, 1) := by decide +kernel
theorem dX10_nights_19 : decode cX10_nights 19 = .ok (.istore_n 3, 1) := by decide +kernel
theorem dX10_nights_20 : decode cX10_nights 20 = .ok (.iload_n 3, 1) := by decide +kernel
theorem dX10_nights_21 : decode cX10_nights 21 = .ok (.bipush 100, 2) := by decide +kernel
theorem dX10_nights_23 : decode cX10_nights 23 = .ok (.aload_n 0, 1) := by decide +kernel
theorem dX10_nights_24 : decode cX10_nights 24 = .ok (.getfield 81, 3) := by decide +kernel
theorem dX10_nights_27 : decode cX10_nights 27 = .ok (.imul, 1) := by decide +kernel
theorem dX10_nights_28 : decode cX10_nights 28 = .ok (.if_icmp .ge 41, 3) := by decide +kernel
theorem dX10_nights_31 : decode cX10_nights 31 = .ok (.iload_n 2, 1) := by decide +kernel
theorem dX10_nights_32 : decode cX10_nights 32 = .ok (.aload_n 0, 1) := by decide +kernel
theorem dX10_nights_33 : decode cX10_nights 33 = .ok (.getfield 7, 3) := by decide +kernel
theorem dX10_nights_36 : decode cX10_nights 36 = .ok (.iload_n 1, 1) := by decide +kernel
theorem dX10_nights_37 : decode cX10_nights 37 = .ok (.iaload, 1) := by decide +kernel
theorem dX10_nights_38 : decode cX10_nights 38 = .ok (.iadd, 1) := by decide +kernel
theorem dX10_nights_39 : decode cX10_nights 39 = .ok (.sipush 199, 3) := by decide +kernel
theorem dX10_nights_42 : decode cX10_nights 42 = .ok (.invokestatic 183, 3) := by decide +kernel
theorem dX10_nights_45 : decode cX10_nights 45 = .ok (.istore_n 2, 1) := by decide +kernel
theorem dX10_nights_46 : decode cX10_nights 46 = .ok (.iload_n 2, 1) := by decide +kernel
theorem dX10_nights_47 : decode cX10_nights 47 = .ok (.aload_n 0, 1) := by decide +kernel
theorem dX10_nights_48 : decode cX10_nights 48 = .ok (.getfield 16, 3) := by decide +kernel
theorem dX10_nights_51 : decode cX10_nights 51 = .ok (.iload_n 1, 1) := by decide +kernel
theorem dX10_nights_52 : decode cX10_nights 52 = .ok (.iaload, 1) := by decide +kernel
theorem dX10_nights_53 : decode cX10_nights 53 = .ok (.if_icmp .le 10, 3) := by decide +kernel
theorem dX10_nights_56 : decode cX10_nights 56 = .ok (.iload_n 3, 1) := by decide +kernel
theorem dX10_nights_57 : decode cX10_nights 57 = .ok (.aload_n 0, 1) := by decide +kernel
theorem dX10_nights_58 : decode cX10_nights 58 = .ok (.getfield 81, 3) := by decide +kernel
theorem dX10_nights_61 : decode cX10_nights 61 = .ok (.idiv, 1) := by decide +kernel
theorem dX10_nights_62 : decode cX10_nights 62 = .ok (.ireturn, 1) := by decide +kernel
theorem dX10_nights_63 : decode cX10_nights 63 = .ok (.iinc 3 1, 3) := by decide +kernel
theorem dX10_nights_66 : decode cX10_nights 66 = .ok (.goto (-46), 3) := by decide +kernel
theorem dX10_nights_69 : decode cX10_nights 69 = .ok (.iconst (-1), 1) := by decide +kernel
theorem dX10_nights_70 : decode cX10_nights 70 = .ok (.ireturn, 1) := by decide +kernel
theorem dX10_holds_0 : decode cX10_holds 0 = .ok (.iconst 1, 1) := by decide +kernel
theorem dX10_holds_1 : decode cX10_holds 1 = .ok (.istore_n 2, 1) := by decide +kernel
theorem dX10_holds_2 : decode cX10_holds 2 = .ok (.iconst 0, 1) := by decide +kernel
theorem dX10_holds_3 : decode cX10_holds 3 = .ok (.istore_n 3, 1) := by decide +kernel
theorem dX10_holds_4 : decode cX10_holds 4 = .ok (.iload_n 3, 1) := by decide +kernel
theorem dX10_holds_5 : decode cX10_holds 5 = .ok (.aload_n 0, 1) := by decide +kernel
theorem dX10_holds_6 : decode cX10_holds 6 = .ok (.getfield 81, 3) := by decide +kernel
theorem dX10_holds_9 : decode cX10_holds 9 = .ok (.if_icmp .ge 32, 3) := by decide +kernel
theorem dX10_holds_12 : decode cX10_holds 12 = .ok (.iload_n 1, 1) := by decide +kernel
theorem dX10_holds_13 : decode cX10_holds 13 = .ok (.aload_n 0, 1) := by decide +kernel
theorem dX10_holds_14 : decode cX10_holds 14 = .ok (.iload_n 1, 1) := by decide +kernel
theorem dX10_holds_15 : decode cX10_holds 15 = .ok (.iconst 0, 1) := by decide +kernel
theorem dX10_holds_16 : decode cX10_holds 16 = .ok (.invokevirtual 186, 3) := by decide +kernel
theorem dX10_holds_19 : decode cX10_holds 19 = .ok (.iconst (-1), 1) := by decide +kernel
theorem dX10_holds_20 : decode cX10_holds 20 = .ok (.ixor, 1) := by decide +kernel
theorem dX10_holds_21 : decode cX10_holds 21 = .ok (.iand, 1) := by decide +kernel
theorem dX10_holds_22 : decode cX10_holds 22 = .ok (.ifCond .eq 11, 3) := by decide +kernel
theorem dX10_holds_25 : decode cX10_holds 25 = .ok (.iload_n 2, 1) := by decide +kernel
theorem dX10_holds_26 : decode cX10_holds 26 = .ok (.ifCond .eq 7, 3) := by decide +kernel
theorem dX10_holds_29 : decode cX10_holds 29 = .ok (.iconst 1, 1) := by decide +kernel
theorem dX10_holds_30 : decode cX10_holds 30 = .ok (.goto 4, 3) := by decide +kernel
theorem dX10_holds_33 : decode cX10_holds 33 = .ok (.iconst 0, 1) := by decide +kernel
theorem dX10_holds_34 : decode cX10_holds 34 = .ok (.istore_n 2, 1) := by decide +kernel
theorem dX10_holds_35 : decode cX10_holds 35 = .ok (.iinc 3 1, 3) := by decide +kernel
theorem dX10_holds_38 : decode cX10_holds 38 = .ok (.goto (-34), 3) := by decide +kernel
theorem dX10_holds_41 : decode cX10_holds 41 = .ok (.aload_n 0, 1) := by decide +kernel
theorem dX10_holds_42 : decode cX10_holds 42 = .ok (.invokevirtual 232, 3) := by decide +kernel
theorem dX10_holds_45 : decode cX10_holds 45 = .ok (.iload_n 2, 1) := by decide +kernel
theorem dX10_holds_46 : decode cX10_holds 46 = .ok (.ireturn, 1) := by decide +kernel
theorem dX10_hold_0 : decode cX10_hold 0 = .ok (.aload_n 0, 1) := by decide +kernel
theorem dX10_hold_1 : decode cX10_hold 1 = .ok (.getfield 81, 3) := by decide +kernel
theorem dX10_hold_4 : decode cX10_hold 4 = .ok (.ifCond .ne 6, 3) := by decide +kernel
theorem dX10_hold_7 : decode cX10_hold 7 = .ok (.ldc 205, 2) := by decide +kernel
theorem dX10_hold_9 : decode cX10_hold 9 = .ok (.ireturn, 1) := by decide +kernel
theorem dX10_hold_10 : decode cX10_hold 10 = .ok (.aload_n 0, 1) := by decide +kernel
theorem dX10_hold_11 : decode cX10_hold 11 = .ok (.invokevirtual 235, 3) := by decide +kernel
theorem dX10_hold_14 : decode cX10_hold 14 = .ok (.iconst (-1), 1) := by decide +kernel
theorem dX10_hold_15 : decode cX10_hold 15 = .ok (.istore_n 1, 1) := by decide +kernel
theorem dX10_hold_16 : decode cX10_hold 16 = .ok (.iconst 1, 1) := by decide +kernel
theorem dX10_hold_17 : decode cX10_hold 17 = .ok (.istore_n 2, 1) := by decide +kernel
theorem dX10_hold_18 : decode cX10_hold 18 = .ok (.iload_n 2, 1) := by decide +kernel
theorem dX10_hold_19 : decode cX10_hold 19 = .ok (.iconst 1, 1) := by decide +kernel
theorem dX10_hold_20 : decode cX10_hold 20 = .ok (.aload_n 0, 1) := by decide +kernel
theorem dX10_hold_21 : decode cX10_hold 21 = .ok (.getfield 84, 3) := by decide +kernel
theorem dX10_hold_24 : decode cX10_hold 24 = .ok (.ishl, 1) := by decide +kernel
theorem dX10_hold_25 : decode cX10_hold 25 = .ok (.if_icmp .ge 48, 3) := by decide +kernel
theorem dX10_hold_28 : decode cX10_hold 28 = .ok (.iload_n 1, 1) := by decide +kernel
theorem dX10_hold_29 : decode cX10_hold 29 = .ok (.ifCond .lt 14, 3) := by decide +kernel
theorem dX10_hold_32 : decode cX10_hold 32 = .ok (.iload_n 2, 1) := by decide +kernel
theorem dX10_hold_33 : decode cX10_hold 33 = .ok (.invokestatic 195, 3) := by decide +kernel
theorem dX10_hold_36 : decode cX10_hold 36 = .ok (.iload_n 1, 1) := by decide +kernel
theorem dX10_hold_37 : decode cX10_hold 37 = .ok (.invokestatic 195, 3) := by decide +kernel
theorem dX10_hold_40 : decode cX10_hold 40 = .ok (.if_icmp .ge 7, 3) := by decide +kernel
theorem dX10_hold_43 : decode cX10_hold 43 = .ok (.iconst 1, 1) := by decide +kernel
theorem dX10_hold_44 : decode cX10_hold 44 = .ok (.goto 4, 3) := by decide +kernel
theorem dX10_hold_47 : decode cX10_hold 47 = .ok (.iconst 0, 1) := by decide +kernel
theorem dX10_hold_48 : decode cX10_hold 48 = .ok (.istore_n 3, 1) := by decide +kernel
theorem dX10_hold_49 : decode cX10_hold 49 = .ok (.iload_n 3, 1) := by decide +kernel
theorem dX10_hold_50 : decode cX10_hold 50 = .ok (.ifCond .eq 15, 3) := by decide +kernel
theorem dX10_hold_53 : decode cX10_hold 53 = .ok (.aload_n 0, 1) := by decide +kernel
theorem dX10_hold_54 : decode cX10_hold 54 = .ok (.iload_n 2, 1) := by decide +kernel
theorem dX10_hold_55 : decode cX10_hold 55 = .ok (.invokevirtual 255, 3) := by decide +kernel
theorem dX10_hold_58 : decode cX10_hold 58 = .ok (.ifCond .eq 7, 3) := by decide +kernel
theorem dX10_hold_61 : decode cX10_hold 61 = .ok (.iload_n 2, 1) := by decide +kernel
theorem dX10_hold_62 : decode cX10_hold 62 = .ok (.goto 4, 3) := by decide +kernel
theorem dX10_hold_65 : decode cX10_hold 65 = .ok (.iload_n 1, 1) := by decide +kernel
theorem dX10_hold_66 : decode cX10_hold 66 = .ok (.istore_n 1, 1) := by decide +kernel
theorem dX10_hold_67 : decode cX10_hold 67 = .ok (.iinc 2 1, 3) := by decide +kernel
theorem dX10_hold_70 : decode cX10_hold 70 = .ok (.goto (-52), 3) := by decide +kernel
theorem dX10_hold_73 : decode cX10_hold 73 = .ok (.iload_n 1, 1) := by decide +kernel
theorem dX10_hold_74 : decode cX10_hold 74 = .ok (.ireturn, 1) := by decide +kernel
theorem dX10_allHours_0 : decode cX10_allHours 0 = .ok (.iconst 0, 1) := by decide +kernel
theorem dX10_allHours_1 : decode cX10_allHours 1 = .ok (.istore_n 1, 1) := by decide +kernel
theorem dX10_allHours_2 : decode cX10_allHours 2 = .ok (.iconst 0, 1) := by decide +kernel
theorem dX10_allHours_3 : decode cX10_allHours 3 = .ok (.istore_n 2, 1) := by decide +kernel
theorem dX10_allHours_4 : decode cX10_allHours 4 = .ok (.iload_n 2, 1) := by decide +kernel
theorem dX10_allHours_5 : decode cX10_allHours 5 = .ok (.aload_n 0, 1) := by decide +kernel
theorem dX10_allHours_6 : decode cX10_allHours 6 = .ok (.getfield 84, 3) := by decide +kernel
theorem dX10_allHours_9 : decode cX10_allHours 9 = .ok (.if_icmp .ge 21, 3) := by decide +kernel
theorem dX10_allHours_12 : decode cX10_allHours 12 = .ok (.iload_n 1, 1) := by decide +kernel
theorem dX10_allHours_13 : decode cX10_allHours 13 = .ok (.aload_n 0, 1) := by decide +kernel
theorem dX10_allHours_14 : decode cX10_allHours 14 = .ok (.getfield 22, 3) := by decide +kernel
theorem dX10_allHours_17 : decode cX10_allHours 17 = .ok (.bipush 6, 2) := by decide +kernel
theorem dX10_allHours_19 : decode cX10_allHours 19 = .ok (.iload_n 2, 1) := by decide +kernel
theorem dX10_allHours_20 : decode cX10_allHours 20 = .ok (.iadd, 1) := by decide +kernel
theorem dX10_allHours_21 : decode cX10_allHours 21 = .ok (.iaload, 1) := by decide +kernel
theorem dX10_allHours_22 : decode cX10_allHours 22 = .ok (.iadd, 1) := by decide +kernel
theorem dX10_allHours_23 : decode cX10_allHours 23 = .ok (.istore_n 1, 1) := by decide +kernel
theorem dX10_allHours_24 : decode cX10_allHours 24 = .ok (.iinc 2 1, 3) := by decide +kernel
theorem dX10_allHours_27 : decode cX10_allHours 27 = .ok (.goto (-23), 3) := by decide +kernel
theorem dX10_allHours_30 : decode cX10_allHours 30 = .ok (.iload_n 1, 1) := by decide +kernel
theorem dX10_allHours_31 : decode cX10_allHours 31 = .ok (.ireturn, 1) := by decide +kernel
theorem dX10_share_0 : decode cX10_share 0 = .ok (.aload_n 0, 1) := by decide +kernel
theorem dX10_share_1 : decode cX10_share 1 = .ok (.iload_n 1, 1) := by decide +kernel
theorem dX10_share_2 : decode cX10_share 2 = .ok (.invokevirtual 168, 3) := by decide +kernel
theorem dX10_share_5 : decode cX10_share 5 = .ok (.ifCond .ne 6, 3) := by decide +kernel
theorem dX10_share_8 : decode cX10_share 8 = .ok (.ldc 172, 2) := by decide +kernel
theorem dX10_share_10 : decode cX10_share 10 = .ok (.ireturn, 1) := by decide +kernel
theorem dX10_share_11 : decode cX10_share 11 = .ok (.aload_n 0, 1) := by decide +kernel
theorem dX10_share_12 : decode cX10_share 12 = .ok (.invokevirtual 258, 3) := by decide +kernel
theorem dX10_share_15 : decode cX10_share 15 = .ok (.istore_n 2, 1) := by decide +kernel
theorem dX10_share_16 : decode cX10_share 16 = .ok (.iload_n 2, 1) := by decide +kernel
theorem dX10_share_17 : decode cX10_share 17 = .ok (.ifCond .ne 7, 3) := by decide +kernel
theorem dX10_share_20 : decode cX10_share 20 = .ok (.iconst 0, 1) := by decide +kernel
theorem dX10_share_21 : decode cX10_share 21 = .ok (.goto 21, 3) := by decide +kernel
theorem dX10_share_24 : decode cX10_share 24 = .ok (.aload_n 0, 1) := by decide +kernel
theorem dX10_share_25 : decode cX10_share 25 = .ok (.getfield 22, 3) := by decide +kernel
theorem dX10_share_28 : decode cX10_share 28 = .ok (.bipush 6, 2) := by decide +kernel
theorem dX10_share_30 : decode cX10_share 30 = .ok (.iload_n 1, 1) := by decide +kernel
theorem dX10_share_31 : decode cX10_share 31 = .ok (.iadd, 1) := by decide +kernel
theorem dX10_share_32 : decode cX10_share 32 = .ok (.iaload, 1) := by decide +kernel
theorem dX10_share_33 : decode cX10_share 33 = .ok (.i2l, 1) := by decide +kernel
theorem dX10_share_34 : decode cX10_share 34 = .ok (.ldc2_w 261, 3) := by decide +kernel
theorem dX10_share_37 : decode cX10_share 37 = .ok (.lmul, 1) := by decide +kernel
theorem dX10_share_38 : decode cX10_share 38 = .ok (.iload_n 2, 1) := by decide +kernel
theorem dX10_share_39 : decode cX10_share 39 = .ok (.i2l, 1) := by decide +kernel
theorem dX10_share_40 : decode cX10_share 40 = .ok (.ldiv, 1) := by decide +kernel
theorem dX10_share_41 : decode cX10_share 41 = .ok (.l2i, 1) := by decide +kernel
theorem dX10_share_42 : decode cX10_share 42 = .ok (.ireturn, 1) := by decide +kernel
theorem dX10_paid_0 : decode cX10_paid 0 = .ok (.aload_n 0, 1) := by decide +kernel
theorem dX10_paid_1 : decode cX10_paid 1 = .ok (.iload_n 1, 1) := by decide +kernel
theorem dX10_paid_2 : decode cX10_paid 2 = .ok (.invokevirtual 168, 3) := by decide +kernel
theorem dX10_paid_5 : decode cX10_paid 5 = .ok (.ifCond .ne 6, 3) := by decide +kernel
theorem dX10_paid_8 : decode cX10_paid 8 = .ok (.ldc 172, 2) := by decide +kernel
theorem dX10_paid_10 : decode cX10_paid 10 = .ok (.ireturn, 1) := by decide +kernel
theorem dX10_paid_11 : decode cX10_paid 11 = .ok (.aload_n 0, 1) := by decide +kernel
theorem dX10_paid_12 : decode cX10_paid 12 = .ok (.invokevirtual 258, 3) := by decide +kernel
theorem dX10_paid_15 : decode cX10_paid 15 = .ok (.istore_n 2, 1) := by decide +kernel
theorem dX10_paid_16 : decode cX10_paid 16 = .ok (.aload_n 0, 1) := by decide +kernel
theorem dX10_paid_17 : decode cX10_paid 17 = .ok (.getfield 22, 3) := by decide +kernel
theorem dX10_paid_20 : decode cX10_paid 20 = .ok (.bipush 13, 2) := by decide +kernel
theorem dX10_paid_22 : decode cX10_paid 22 = .ok (.iaload, 1) := by decide +kernel
theorem dX10_paid_23 : decode cX10_paid 23 = .ok (.aload_n 0, 1) := by decide +kernel
theorem dX10_paid_24 : decode cX10_paid 24 = .ok (.getfield 22, 3) := by decide +kernel
theorem dX10_paid_27 : decode cX10_paid 27 = .ok (.bipush 14, 2) := by decide +kernel
theorem dX10_paid_29 : decode cX10_paid 29 = .ok (.iaload, 1) := by decide +kernel
theorem dX10_paid_30 : decode cX10_paid 30 = .ok (.isub, 1) := by decide +kernel
theorem dX10_paid_31 : decode cX10_paid 31 = .ok (.iconst 0, 1) := by decide +kernel
theorem dX10_paid_32 : decode cX10_paid 32 = .ok (.invokestatic 180, 3) := by decide +kernel
theorem dX10_paid_35 : decode cX10_paid 35 = .ok (.i2l, 1) := by decide +kernel
theorem dX10_paid_36 : decode cX10_paid 36 = .ok (.lstore_n 3, 1) := by decide +kernel
theorem dX10_paid_37 : decode cX10_paid 37 = .ok (.iload_n 2, 1) := by decide +kernel
theorem dX10_paid_38 : decode cX10_paid 38 = .ok (.ifCond .ne 7, 3) := by decide +kernel
theorem dX10_paid_41 : decode cX10_paid 41 = .ok (.iconst 0, 1) := by decide +kernel
theorem dX10_paid_42 : decode cX10_paid 42 = .ok (.goto 19, 3) := by decide +kernel
theorem dX10_paid_45 : decode cX10_paid 45 = .ok (.lload_n 3, 1) := by decide +kernel
theorem dX10_paid_46 : decode cX10_paid 46 = .ok (.aload_n 0, 1) := by decide +kernel
theorem dX10_paid_47 : decode cX10_paid 47 = .ok (.getfield 22, 3) := by decide +kernel
theorem dX10_paid_50 : decode cX10_paid 50 = .ok (.bipush 6, 2) := by decide +kernel
theorem dX10_paid_52 : decode cX10_paid 52 = .ok (.iload_n 1, 1) := by decide +kernel
theorem dX10_paid_53 : decode cX10_paid 53 = .ok (.iadd, 1) := by decide +kernel
theorem dX10_paid_54 : decode cX10_paid 54 = .ok (.iaload, 1) := by decide +kernel
theorem dX10_paid_55 : decode cX10_paid 55 = .ok (.i2l, 1) := by decide +kernel
theorem dX10_paid_56 : decode cX10_paid 56 = .ok (.lmul, 1) := by decide +kernel
theorem dX10_paid_57 : decode cX10_paid 57 = .ok (.iload_n 2, 1) := by decide +kernel
theorem dX10_paid_58 : decode cX10_paid 58 = .ok (.i2l, 1) := by decide +kernel
theorem dX10_paid_59 : decode cX10_paid 59 = .ok (.ldiv, 1) := by decide +kernel
theorem dX10_paid_60 : decode cX10_paid 60 = .ok (.l2i, 1) := by decide +kernel
theorem dX10_paid_61 : decode cX10_paid 61 = .ok (.ireturn, 1) := by decide +kernel
theorem dX10_blink_0 : decode cX10_blink 0 = .ok (.aload_n 0, 1) := by decide +kernel
theorem dX10_blink_1 : decode cX10_blink 1 = .ok (.iload_n 1, 1) := by decide +kernel
theorem dX10_blink_2 : decode cX10_blink 2 = .ok (.invokevirtual 168, 3) := by decide +kernel
theorem dX10_blink_5 : decode cX10_blink 5 = .ok (.ifCond .ne 6, 3) := by decide +kernel
theorem dX10_blink_8 : decode cX10_blink 8 = .ok (.ldc 172, 2) := by decide +kernel
theorem dX10_blink_10 : decode cX10_blink 10 = .ok (.ireturn, 1) := by decide +kernel
theorem dX10_blink_11 : decode cX10_blink 11 = .ok (.iload_n 2, 1) := by decide +kernel
theorem dX10_blink_12 : decode cX10_blink 12 = .ok (.i2l, 1) := by decide +kernel
theorem dX10_blink_13 : decode cX10_blink 13 = .ok (.lconst 0, 1) := by decide +kernel
theorem dX10_blink_14 : decode cX10_blink 14 = .ok (.ldc2_w 214, 3) := by decide +kernel
theorem dX10_blink_17 : decode cX10_blink 17 = .ok (.invokestatic 87, 3) := by decide +kernel
theorem dX10_blink_20 : decode cX10_blink 20 = .ok (.ifCond .eq 15, 3) := by decide +kernel
theorem dX10_blink_23 : decode cX10_blink 23 = .ok (.iload_n 3, 1) := by decide +kernel
theorem dX10_blink_24 : decode cX10_blink 24 = .ok (.i2l, 1) := by decide +kernel
theorem dX10_blink_25 : decode cX10_blink 25 = .ok (.lconst 0, 1) := by decide +kernel
theorem dX10_blink_26 : decode cX10_blink 26 = .ok (.ldc2_w 263, 3) := by decide +kernel
theorem dX10_blink_29 : decode cX10_blink 29 = .ok (.invokestatic 87, 3) := by decide +kernel
theorem dX10_blink_32 : decode cX10_blink 32 = .ok (.ifCond .ne 6, 3) := by decide +kernel
theorem dX10_blink_35 : decode cX10_blink 35 = .ok (.ldc 96, 2) := by decide +kernel
theorem dX10_blink_37 : decode cX10_blink 37 = .ok (.ireturn, 1) := by decide +kernel
theorem dX10_blink_38 : decode cX10_blink 38 = .ok (.iload_n 3, 1) := by decide +kernel
theorem dX10_blink_39 : decode cX10_blink 39 = .ok (.aload_n 0, 1) := by decide +kernel
theorem dX10_blink_40 : decode cX10_blink 40 = .ok (.getfield 22, 3) := by decide +kernel
theorem dX10_blink_43 : decode cX10_blink 43 = .ok (.iload_n 1, 1) := by decide +kernel
theorem dX10_blink_44 : decode cX10_blink 44 = .ok (.iaload, 1) := by decide +kernel
theorem dX10_blink_45 : decode cX10_blink 45 = .ok (.bipush 10, 2) := by decide +kernel
theorem dX10_blink_47 : decode cX10_blink 47 = .ok (.idiv, 1) := by decide +kernel
theorem dX10_blink_48 : decode cX10_blink 48 = .ok (.iadd, 1) := by decide +kernel
theorem dX10_blink_49 : decode cX10_blink 49 = .ok (.bipush 100, 2) := by decide +kernel
theorem dX10_blink_51 : decode cX10_blink 51 = .ok (.invokestatic 183, 3) := by decide +kernel
theorem dX10_blink_54 : decode cX10_blink 54 = .ok (.istore 4, 2) := by decide +kernel
theorem dX10_blink_56 : decode cX10_blink 56 = .ok (.ldc2_w 265, 3) := by decide +kernel
theorem dX10_blink_59 : decode cX10_blink 59 = .ok (.lstore 5, 2) := by decide +kernel
theorem dX10_blink_61 : decode cX10_blink 61 = .ok (.iconst 0, 1) := by decide +kernel
theorem dX10_blink_62 : decode cX10_blink 62 = .ok (.istore 7, 2) := by decide +kernel
theorem dX10_blink_64 : decode cX10_blink 64 = .ok (.iload 7, 2) := by decide +kernel
theorem dX10_blink_66 : decode cX10_blink 66 = .ok (.iload_n 2, 1) := by decide +kernel
theorem dX10_blink_67 : decode cX10_blink 67 = .ok (.if_icmp .ge 24, 3) := by decide +kernel
theorem dX10_blink_70 : decode cX10_blink 70 = .ok (.lload 5, 2) := by decide +kernel
theorem dX10_blink_72 : decode cX10_blink 72 = .ok (.bipush 100, 2) := by decide +kernel
theorem dX10_blink_74 : decode cX10_blink 74 = .ok (.iload 4, 2) := by decide +kernel
theorem dX10_blink_76 : decode cX10_blink 76 = .ok (.isub, 1) := by decide +kernel
theorem dX10_blink_77 : decode cX10_blink 77 = .ok (.i2l, 1) := by decide +kernel
theorem dX10_blink_78 : decode cX10_blink 78 = .ok (.lmul, 1) := by decide +kernel
theorem dX10_blink_79 : decode cX10_blink 79 = .ok (.ldc2_w 263, 3) := by decide +kernel
theorem dX10_blink_82 : decode cX10_blink 82 = .ok (.ldiv, 1) := by decide +kernel
theorem dX10_blink_83 : decode cX10_blink 83 = .ok (.lstore 5, 2) := by decide +kernel
theorem dX10_blink_85 : decode cX10_blink 85 = .ok (.iinc 7 1, 3) := by decide +kernel
theorem dX10_blink_88 : decode cX10_blink 88 = .ok (.goto (-24), 3) := by decide +kernel
theorem dX10_blink_91 : decode cX10_blink 91 = .ok (.lload 5, 2) := by decide +kernel
theorem dX10_blink_93 : decode cX10_blink 93 = .ok (.l2i, 1) := by decide +kernel
theorem dX10_blink_94 : decode cX10_blink 94 = .ok (.ireturn, 1) := by decide +kernel
theorem dX10_see_0 : decode cX10_see 0 = .ok (.aload_n 0, 1) := by decide +kernel
theorem dX10_see_1 : decode cX10_see 1 = .ok (.iload_n 1, 1) := by decide +kernel
theorem dX10_see_2 : decode cX10_see 2 = .ok (.invokevirtual 173, 3) := by decide +kernel
theorem dX10_see_5 : decode cX10_see 5 = .ok (.ifCond .ne 6, 3) := by decide +kernel
theorem dX10_see_8 : decode cX10_see 8 = .ok (.ldc 172, 2) := by decide +kernel
theorem dX10_see_10 : decode cX10_see 10 = .ok (.ireturn, 1) := by decide +kernel
theorem dX10_see_11 : decode cX10_see 11 = .ok (.aload_n 0, 1) := by decide +kernel
theorem dX10_see_12 : decode cX10_see 12 = .ok (.getfield 159, 3) := by decide +kernel
theorem dX10_see_15 : decode cX10_see 15 = .ok (.bipush 8, 2) := by decide +kernel
theorem dX10_see_17 : decode cX10_see 17 = .ok (.if_icmp .ne 6, 3) := by decide +kernel
theorem dX10_see_20 : decode cX10_see 20 = .ok (.ldc 100, 2) := by decide +kernel
theorem dX10_see_22 : decode cX10_see 22 = .ok (.ireturn, 1) := by decide +kernel
theorem dX10_see_23 : decode cX10_see 23 = .ok (.aload_n 0, 1) := by decide +kernel
theorem dX10_see_24 : decode cX10_see 24 = .ok (.getfield 62, 3) := by decide +kernel
theorem dX10_see_27 : decode cX10_see 27 = .ok (.aload_n 0, 1) := by decide +kernel
theorem dX10_see_28 : decode cX10_see 28 = .ok (.getfield 159, 3) := by decide +kernel
theorem dX10_see_31 : decode cX10_see 31 = .ok (.iload_n 1, 1) := by decide +kernel
theorem dX10_see_32 : decode cX10_see 32 = .ok (.iastore, 1) := by decide +kernel
theorem dX10_see_33 : decode cX10_see 33 = .ok (.aload_n 0, 1) := by decide +kernel
theorem dX10_see_34 : decode cX10_see 34 = .ok (.getfield 65, 3) := by decide +kernel
theorem dX10_see_37 : decode cX10_see 37 = .ok (.aload_n 0, 1) := by decide +kernel
theorem dX10_see_38 : decode cX10_see 38 = .ok (.getfield 159, 3) := by decide +kernel
theorem dX10_see_41 : decode cX10_see 41 = .ok (.iload_n 2, 1) := by decide +kernel
theorem dX10_see_42 : decode cX10_see 42 = .ok (.bastore, 1) := by decide +kernel
theorem dX10_see_43 : decode cX10_see 43 = .ok (.aload_n 0, 1) := by decide +kernel
theorem dX10_see_44 : decode cX10_see 44 = .ok (.dup, 1) := by decide +kernel
theorem dX10_see_45 : decode cX10_see 45 = .ok (.getfield 159, 3) := by decide +kernel
theorem dX10_see_48 : decode cX10_see 48 = .ok (.iconst 1, 1) := by decide +kernel
theorem dX10_see_49 : decode cX10_see 49 = .ok (.iadd, 1) := by decide +kernel
theorem dX10_see_50 : decode cX10_see 50 = .ok (.putfield 159, 3) := by decide +kernel
theorem dX10_see_53 : decode cX10_see 53 = .ok (.aload_n 0, 1) := by decide +kernel
theorem dX10_see_54 : decode cX10_see 54 = .ok (.getfield 159, 3) := by decide +kernel
theorem dX10_see_57 : decode cX10_see 57 = .ok (.ireturn, 1) := by decide +kernel
theorem dX10_couldNod_0 : decode cX10_couldNod 0 = .ok (.iload_n 2, 1) := by decide +kernel
theorem dX10_couldNod_1 : decode cX10_couldNod 1 = .ok (.iload_n 1, 1) := by decide +kernel
theorem dX10_couldNod_2 : decode cX10_couldNod 2 = .ok (.iconst (-1), 1) := by decide +kernel
theorem dX10_couldNod_3 : decode cX10_couldNod 3 = .ok (.ixor, 1) := by decide +kernel
theorem dX10_couldNod_4 : decode cX10_couldNod 4 = .ok (.iand, 1) := by decide +kernel
theorem dX10_couldNod_5 : decode cX10_couldNod 5 = .ok (.ifCond .ne 7, 3) := by decide +kernel
theorem dX10_couldNod_8 : decode cX10_couldNod 8 = .ok (.iconst 1, 1) := by decide +kernel
theorem dX10_couldNod_9 : decode cX10_couldNod 9 = .ok (.goto 4, 3) := by decide +kernel
theorem dX10_couldNod_12 : decode cX10_couldNod 12 = .ok (.iconst 0, 1) := by decide +kernel
theorem dX10_couldNod_13 : decode cX10_couldNod 13 = .ok (.istore_n 3, 1) := by decide +kernel
theorem dX10_couldNod_14 : decode cX10_couldNod 14 = .ok (.iconst 0, 1) := by decide +kernel
theorem dX10_couldNod_15 : decode cX10_couldNod 15 = .ok (.istore 4, 2) := by decide +kernel
theorem dX10_couldNod_17 : decode cX10_couldNod 17 = .ok (.iload 4, 2) := by decide +kernel
theorem dX10_couldNod_19 : decode cX10_couldNod 19 = .ok (.aload_n 0, 1) := by decide +kernel
theorem dX10_couldNod_20 : decode cX10_couldNod 20 = .ok (.getfield 159, 3) := by decide +kernel
theorem dX10_couldNod_23 : decode cX10_couldNod 23 = .ok (.if_icmp .ge 46, 3) := by decide +kernel
theorem dX10_couldNod_26 : decode cX10_couldNod 26 = .ok (.iload_n 3, 1) := by decide +kernel
theorem dX10_couldNod_27 : decode cX10_couldNod 27 = .ok (.ifCond .eq 34, 3) := by decide +kernel
theorem dX10_couldNod_30 : decode cX10_couldNod 30 = .ok (.aload_n 0, 1) := by decide +kernel
theorem dX10_couldNod_31 : decode cX10_couldNod 31 = .ok (.getfield 19, 3) := by decide +kernel
theorem dX10_couldNod_34 : decode cX10_couldNod 34 = .ok (.aload_n 0, 1) := by decide +kernel
theorem dX10_couldNod_35 : decode cX10_couldNod 35 = .ok (.getfield 62, 3) := by decide +kernel
theorem dX10_couldNod_38 : decode cX10_couldNod 38 = .ok (.iload 4, 2) := by decide +kernel
theorem dX10_couldNod_40 : decode cX10_couldNod 40 = .ok (.iaload, 1) := by decide +kernel
theorem dX10_couldNod_41 : decode cX10_couldNod 41 = .ok (.iaload, 1) := by decide +kernel
theorem dX10_couldNod_42 : decode cX10_couldNod 42 = .ok (.iload_n 1, 1) := by decide +kernel
theorem dX10_couldNod_43 : decode cX10_couldNod 43 = .ok (.iload_n 2, 1) := by decide +kernel
theorem dX10_couldNod_44 : decode cX10_couldNod 44 = .ok (.invokestatic 190, 3) := by decide +kernel
theorem dX10_couldNod_47 : decode cX10_couldNod 47 = .ok (.aload_n 0, 1) := by decide +kernel
theorem dX10_couldNod_48 : decode cX10_couldNod 48 = .ok (.getfield 65, 3) := by decide +kernel
theorem dX10_couldNod_51 : decode cX10_couldNod 51 = .ok (.iload 4, 2) := by decide +kernel
theorem dX10_couldNod_53 : decode cX10_couldNod 53 = .ok (.baload, 1) := by decide +kernel
theorem dX10_couldNod_54 : decode cX10_couldNod 54 = .ok (.if_icmp .ne 7, 3) := by decide +kernel
theorem dX10_couldNod_57 : decode cX10_couldNod 57 = .ok (.iconst 1, 1) := by decide +kernel
theorem dX10_couldNod_58 : decode cX10_couldNod 58 = .ok (.goto 4, 3) := by decide +kernel
theorem dX10_couldNod_61 : decode cX10_couldNod 61 = .ok (.iconst 0, 1) := by decide +kernel
theorem dX10_couldNod_62 : decode cX10_couldNod 62 = .ok (.istore_n 3, 1) := by decide +kernel
theorem dX10_couldNod_63 : decode cX10_couldNod 63 = .ok (.iinc 4 1, 3) := by decide +kernel
theorem dX10_couldNod_66 : decode cX10_couldNod 66 = .ok (.goto (-49), 3) := by decide +kernel
theorem dX10_couldNod_69 : decode cX10_couldNod 69 = .ok (.iload_n 3, 1) := by decide +kernel
theorem dX10_couldNod_70 : decode cX10_couldNod 70 = .ok (.ireturn, 1) := by decide +kernel
theorem dX10_sureOf_0 : decode cX10_sureOf 0 = .ok (.iload_n 1, 1) := by decide +kernel
theorem dX10_sureOf_1 : decode cX10_sureOf 1 = .ok (.istore_n 2, 1) := by decide +kernel
theorem dX10_sureOf_2 : decode cX10_sureOf 2 = .ok (.iconst 0, 1) := by decide +kernel
theorem dX10_sureOf_3 : decode cX10_sureOf 3 = .ok (.istore_n 3, 1) := by decide +kernel
theorem dX10_sureOf_4 : decode cX10_sureOf 4 = .ok (.iconst 0, 1) := by decide +kernel
theorem dX10_sureOf_5 : decode cX10_sureOf 5 = .ok (.istore 4, 2) := by decide +kernel
theorem dX10_sureOf_7 : decode cX10_sureOf 7 = .ok (.iload 4, 2) := by decide +kernel
theorem dX10_sureOf_9 : decode cX10_sureOf 9 = .ok (.iconst 1, 1) := by decide +kernel
theorem dX10_sureOf_10 : decode cX10_sureOf 10 = .ok (.aload_n 0, 1) := by decide +kernel
theorem dX10_sureOf_11 : decode cX10_sureOf 11 = .ok (.getfield 84, 3) := by decide +kernel
theorem dX10_sureOf_14 : decode cX10_sureOf 14 = .ok (.ishl, 1) := by decide +kernel
theorem dX10_sureOf_15 : decode cX10_sureOf 15 = .ok (.if_icmp .ge 26, 3) := by decide +kernel
theorem dX10_sureOf_18 : decode cX10_sureOf 18 = .ok (.aload_n 0, 1) := by decide +kernel
theorem dX10_sureOf_19 : decode cX10_sureOf 19 = .ok (.iload_n 1, 1) := by decide +kernel
theorem dX10_sureOf_20 : decode cX10_sureOf 20 = .ok (.iload 4, 2) := by decide +kernel
theorem dX10_sureOf_22 : decode cX10_sureOf 22 = .ok (.invokevirtual 267, 3) := by decide +kernel
theorem dX10_sureOf_25 : decode cX10_sureOf 25 = .ok (.ifCond .eq 10, 3) := by decide +kernel
theorem dX10_sureOf_28 : decode cX10_sureOf 28 = .ok (.iload_n 2, 1) := by decide +kernel
theorem dX10_sureOf_29 : decode cX10_sureOf 29 = .ok (.iload 4, 2) := by decide +kernel
theorem dX10_sureOf_31 : decode cX10_sureOf 31 = .ok (.iand, 1) := by decide +kernel
theorem dX10_sureOf_32 : decode cX10_sureOf 32 = .ok (.istore_n 2, 1) := by decide +kernel
theorem dX10_sureOf_33 : decode cX10_sureOf 33 = .ok (.iconst 1, 1) := by decide +kernel
theorem dX10_sureOf_34 : decode cX10_sureOf 34 = .ok (.istore_n 3, 1) := by decide +kernel
theorem dX10_sureOf_35 : decode cX10_sureOf 35 = .ok (.iinc 4 1, 3) := by decide +kernel
theorem dX10_sureOf_38 : decode cX10_sureOf 38 = .ok (.goto (-31), 3) := by decide +kernel
theorem dX10_sureOf_41 : decode cX10_sureOf 41 = .ok (.iload_n 3, 1) := by decide +kernel
theorem dX10_sureOf_42 : decode cX10_sureOf 42 = .ok (.ifCond .eq 7, 3) := by decide +kernel
theorem dX10_sureOf_45 : decode cX10_sureOf 45 = .ok (.iload_n 2, 1) := by decide +kernel
theorem dX10_sureOf_46 : decode cX10_sureOf 46 = .ok (.goto 4, 3) := by decide +kernel
theorem dX10_sureOf_49 : decode cX10_sureOf 49 = .ok (.iconst 0, 1) := by decide +kernel
theorem dX10_sureOf_50 : decode cX10_sureOf 50 = .ok (.ireturn, 1) := by decide +kernel
theorem dX10_nodded_0 : decode cX10_nodded 0 = .ok (.aload_n 0, 1) := by decide +kernel
theorem dX10_nodded_1 : decode cX10_nodded 1 = .ok (.iload_n 1, 1) := by decide +kernel
theorem dX10_nodded_2 : decode cX10_nodded 2 = .ok (.invokevirtual 202, 3) := by decide +kernel
theorem dX10_nodded_5 : decode cX10_nodded 5 = .ok (.ifCond .ne 6, 3) := by decide +kernel
theorem dX10_nodded_8 : decode cX10_nodded 8 = .ok (.ldc 172, 2) := by decide +kernel
theorem dX10_nodded_10 : decode cX10_nodded 10 = .ok (.ireturn, 1) := by decide +kernel
theorem dX10_nodded_11 : decode cX10_nodded 11 = .ok (.iload_n 2, 1) := by decide +kernel
theorem dX10_nodded_12 : decode cX10_nodded 12 = .ok (.bipush (-2), 2) := by decide +kernel
theorem dX10_nodded_14 : decode cX10_nodded 14 = .ok (.if_icmp .ne 9, 3) := by decide +kernel
theorem dX10_nodded_17 : decode cX10_nodded 17 = .ok (.aload_n 0, 1) := by decide +kernel
theorem dX10_nodded_18 : decode cX10_nodded 18 = .ok (.iload_n 1, 1) := by decide +kernel
theorem dX10_nodded_19 : decode cX10_nodded 19 = .ok (.invokevirtual 270, 3) := by decide +kernel
theorem dX10_nodded_22 : decode cX10_nodded 22 = .ok (.ireturn, 1) := by decide +kernel
theorem dX10_nodded_23 : decode cX10_nodded 23 = .ok (.iconst 0, 1) := by decide +kernel
theorem dX10_nodded_24 : decode cX10_nodded 24 = .ok (.istore_n 3, 1) := by decide +kernel
theorem dX10_nodded_25 : decode cX10_nodded 25 = .ok (.iconst 0, 1) := by decide +kernel
theorem dX10_nodded_26 : decode cX10_nodded 26 = .ok (.istore 4, 2) := by decide +kernel
theorem dX10_nodded_28 : decode cX10_nodded 28 = .ok (.iload 4, 2) := by decide +kernel
theorem dX10_nodded_30 : decode cX10_nodded 30 = .ok (.aload_n 0, 1) := by decide +kernel
theorem dX10_nodded_31 : decode cX10_nodded 31 = .ok (.getfield 84, 3) := by decide +kernel
theorem dX10_nodded_34 : decode cX10_nodded 34 = .ok (.if_icmp .gt 60, 3) := by decide +kernel
theorem dX10_nodded_37 : decode cX10_nodded 37 = .ok (.iconst 0, 1) := by decide +kernel
theorem dX10_nodded_38 : decode cX10_nodded 38 = .ok (.istore 5, 2) := by decide +kernel
theorem dX10_nodded_40 : decode cX10_nodded 40 = .ok (.iload 5, 2) := by decide +kernel
theorem dX10_nodded_42 : decode cX10_nodded 42 = .ok (.iconst 1, 1) := by decide +kernel
theorem dX10_nodded_43 : decode cX10_nodded 43 = .ok (.aload_n 0, 1) := by decide +kernel
theorem dX10_nodded_44 : decode cX10_nodded 44 = .ok (.getfield 84, 3) := by decide +kernel
theorem dX10_nodded_47 : decode cX10_nodded 47 = .ok (.ishl, 1) := by decide +kernel
theorem dX10_nodded_48 : decode cX10_nodded 48 = .ok (.if_icmp .ge 40, 3) := by decide +kernel
theorem dX10_nodded_51 : decode cX10_nodded 51 = .ok (.iload 5, 2) := by decide +kernel
theorem dX10_nodded_53 : decode cX10_nodded 53 = .ok (.invokestatic 195, 3) := by decide +kernel
theorem dX10_nodded_56 : decode cX10_nodded 56 = .ok (.iload 4, 2) := by decide +kernel
theorem dX10_nodded_58 : decode cX10_nodded 58 = .ok (.if_icmp .ne 24, 3) := by decide +kernel
theorem dX10_nodded_61 : decode cX10_nodded 61 = .ok (.aload_n 0, 1) := by decide +kernel
theorem dX10_nodded_62 : decode cX10_nodded 62 = .ok (.iload_n 1, 1) := by decide +kernel
theorem dX10_nodded_63 : decode cX10_nodded 63 = .ok (.iload 5, 2) := by decide +kernel
theorem dX10_nodded_65 : decode cX10_nodded 65 = .ok (.invokevirtual 267, 3) := by decide +kernel
theorem dX10_nodded_68 : decode cX10_nodded 68 = .ok (.ifCond .eq 14, 3) := by decide +kernel
theorem dX10_nodded_71 : decode cX10_nodded 71 = .ok (.iload_n 3, 1) := by decide +kernel
theorem dX10_nodded_72 : decode cX10_nodded 72 = .ok (.iload_n 2, 1) := by decide +kernel
theorem dX10_nodded_73 : decode cX10_nodded 73 = .ok (.if_icmp .ne 6, 3) := by decide +kernel
theorem dX10_nodded_76 : decode cX10_nodded 76 = .ok (.iload 5, 2) := by decide +kernel
theorem dX10_nodded_78 : decode cX10_nodded 78 = .ok (.ireturn, 1) := by decide +kernel
theorem dX10_nodded_79 : decode cX10_nodded 79 = .ok (.iinc 3 1, 3) := by decide +kernel
theorem dX10_nodded_82 : decode cX10_nodded 82 = .ok (.iinc 5 1, 3) := by decide +kernel
theorem dX10_nodded_85 : decode cX10_nodded 85 = .ok (.goto (-45), 3) := by decide +kernel
theorem dX10_nodded_88 : decode cX10_nodded 88 = .ok (.iinc 4 1, 3) := by decide +kernel
theorem dX10_nodded_91 : decode cX10_nodded 91 = .ok (.goto (-63), 3) := by decide +kernel
theorem dX10_nodded_94 : decode cX10_nodded 94 = .ok (.iload_n 2, 1) := by decide +kernel
theorem dX10_nodded_95 : decode cX10_nodded 95 = .ok (.iconst (-1), 1) := by decide +kernel
theorem dX10_nodded_96 : decode cX10_nodded 96 = .ok (.if_icmp .ne 7, 3) := by decide +kernel
theorem dX10_nodded_99 : decode cX10_nodded 99 = .ok (.iload_n 3, 1) := by decide +kernel
theorem dX10_nodded_100 : decode cX10_nodded 100 = .ok (.goto 4, 3) := by decide +kernel
theorem dX10_nodded_103 : decode cX10_nodded 103 = .ok (.iconst (-1), 1) := by decide +kernel
theorem dX10_nodded_104 : decode cX10_nodded 104 = .ok (.ireturn, 1) := by decide +kernel
theorem dX10_askNext_0 : decode cX10_askNext 0 = .ok (.aload_n 0, 1) := by decide +kernel
theorem dX10_askNext_1 : decode cX10_askNext 1 = .ok (.iload_n 1, 1) := by decide +kernel
theorem dX10_askNext_2 : decode cX10_askNext 2 = .ok (.invokevirtual 202, 3) := by decide +kernel
theorem dX10_askNext_5 : decode cX10_askNext 5 = .ok (.ifCond .ne 6, 3) := by decide +kernel
theorem dX10_askNext_8 : decode cX10_askNext 8 = .ok (.ldc 172, 2) := by decide +kernel
theorem dX10_askNext_10 : decode cX10_askNext 10 = .ok (.ireturn, 1) := by decide +kernel
theorem dX10_askNext_11 : decode cX10_askNext 11 = .ok (.iconst 0, 1) := by decide +kernel
theorem dX10_askNext_12 : decode cX10_askNext 12 = .ok (.istore_n 2, 1) := by decide +kernel
theorem dX10_askNext_13 : decode cX10_askNext 13 = .ok (.iconst 0, 1) := by decide +kernel
theorem dX10_askNext_14 : decode cX10_askNext 14 = .ok (.istore_n 3, 1) := by decide +kernel
theorem dX10_askNext_15 : decode cX10_askNext 15 = .ok (.iload_n 3, 1) := by decide +kernel
theorem dX10_askNext_16 : decode cX10_askNext 16 = .ok (.iconst 1, 1) := by decide +kernel
theorem dX10_askNext_17 : decode cX10_askNext 17 = .ok (.aload_n 0, 1) := by decide +kernel
theorem dX10_askNext_18 : decode cX10_askNext 18 = .ok (.getfield 84, 3) := by decide +kernel
theorem dX10_askNext_21 : decode cX10_askNext 21 = .ok (.ishl, 1) := by decide +kernel
theorem dX10_askNext_22 : decode cX10_askNext 22 = .ok (.if_icmp .ge 26, 3) := by decide +kernel
theorem dX10_askNext_25 : decode cX10_askNext 25 = .ok (.iload_n 2, 1) := by decide +kernel
theorem dX10_askNext_26 : decode cX10_askNext 26 = .ok (.aload_n 0, 1) := by decide +kernel
theorem dX10_askNext_27 : decode cX10_askNext 27 = .ok (.iload_n 1, 1) := by decide +kernel
theorem dX10_askNext_28 : decode cX10_askNext 28 = .ok (.iload_n 3, 1) := by decide +kernel
theorem dX10_askNext_29 : decode cX10_askNext 29 = .ok (.invokevirtual 267, 3) := by decide +kernel
theorem dX10_askNext_32 : decode cX10_askNext 32 = .ok (.ifCond .eq 7, 3) := by decide +kernel
theorem dX10_askNext_35 : decode cX10_askNext 35 = .ok (.iconst 1, 1) := by decide +kernel
theorem dX10_askNext_36 : decode cX10_askNext 36 = .ok (.goto 4, 3) := by decide +kernel
theorem dX10_askNext_39 : decode cX10_askNext 39 = .ok (.iconst 0, 1) := by decide +kernel
theorem dX10_askNext_40 : decode cX10_askNext 40 = .ok (.iadd, 1) := by decide +kernel
theorem dX10_askNext_41 : decode cX10_askNext 41 = .ok (.istore_n 2, 1) := by decide +kernel
theorem dX10_askNext_42 : decode cX10_askNext 42 = .ok (.iinc 3 1, 3) := by decide +kernel
theorem dX10_askNext_45 : decode cX10_askNext 45 = .ok (.goto (-30), 3) := by decide +kernel
theorem dX10_askNext_48 : decode cX10_askNext 48 = .ok (.iconst (-1), 1) := by decide +kernel
theorem dX10_askNext_49 : decode cX10_askNext 49 = .ok (.istore_n 3, 1) := by decide +kernel
theorem dX10_askNext_50 : decode cX10_askNext 50 = .ok (.iload_n 2, 1) := by decide +kernel
theorem dX10_askNext_51 : decode cX10_askNext 51 = .ok (.istore 4, 2) := by decide +kernel
theorem dX10_askNext_53 : decode cX10_askNext 53 = .ok (.iconst 0, 1) := by decide +kernel
theorem dX10_askNext_54 : decode cX10_askNext 54 = .ok (.istore 5, 2) := by decide +kernel
theorem dX10_askNext_56 : decode cX10_askNext 56 = .ok (.iload 5, 2) := by decide +kernel
theorem dX10_askNext_58 : decode cX10_askNext 58 = .ok (.aload_n 0, 1) := by decide +kernel
theorem dX10_askNext_59 : decode cX10_askNext 59 = .ok (.getfield 91, 3) := by decide +kernel
theorem dX10_askNext_62 : decode cX10_askNext 62 = .ok (.if_icmp .ge 102, 3) := by decide +kernel
theorem dX10_askNext_65 : decode cX10_askNext 65 = .ok (.iconst 0, 1) := by decide +kernel
theorem dX10_askNext_66 : decode cX10_askNext 66 = .ok (.istore 6, 2) := by decide +kernel
theorem dX10_askNext_68 : decode cX10_askNext 68 = .ok (.iconst 0, 1) := by decide +kernel
theorem dX10_askNext_69 : decode cX10_askNext 69 = .ok (.istore 7, 2) := by decide +kernel
theorem dX10_askNext_71 : decode cX10_askNext 71 = .ok (.iload 7, 2) := by decide +kernel
theorem dX10_askNext_73 : decode cX10_askNext 73 = .ok (.iconst 1, 1) := by decide +kernel
theorem dX10_askNext_74 : decode cX10_askNext 74 = .ok (.aload_n 0, 1) := by decide +kernel
theorem dX10_askNext_75 : decode cX10_askNext 75 = .ok (.getfield 84, 3) := by decide +kernel
theorem dX10_askNext_78 : decode cX10_askNext 78 = .ok (.ishl, 1) := by decide +kernel
theorem dX10_askNext_79 : decode cX10_askNext 79 = .ok (.if_icmp .ge 45, 3) := by decide +kernel
theorem dX10_askNext_82 : decode cX10_askNext 82 = .ok (.iload 6, 2) := by decide +kernel
theorem dX10_askNext_84 : decode cX10_askNext 84 = .ok (.aload_n 0, 1) := by decide +kernel
theorem dX10_askNext_85 : decode cX10_askNext 85 = .ok (.iload_n 1, 1) := by decide +kernel
theorem dX10_askNext_86 : decode cX10_askNext 86 = .ok (.iload 7, 2) := by decide +kernel
theorem dX10_askNext_88 : decode cX10_askNext 88 = .ok (.invokevirtual 267, 3) := by decide +kernel
theorem dX10_askNext_91 : decode cX10_askNext 91 = .ok (.ifCond .eq 23, 3) := by decide +kernel
theorem dX10_askNext_94 : decode cX10_askNext 94 = .ok (.aload_n 0, 1) := by decide +kernel
theorem dX10_askNext_95 : decode cX10_askNext 95 = .ok (.getfield 19, 3) := by decide +kernel
theorem dX10_askNext_98 : decode cX10_askNext 98 = .ok (.iload 5, 2) := by decide +kernel
theorem dX10_askNext_100 : decode cX10_askNext 100 = .ok (.iaload, 1) := by decide +kernel
theorem dX10_askNext_101 : decode cX10_askNext 101 = .ok (.iload_n 1, 1) := by decide +kernel
theorem dX10_askNext_102 : decode cX10_askNext 102 = .ok (.iload 7, 2) := by decide +kernel
theorem dX10_askNext_104 : decode cX10_askNext 104 = .ok (.invokestatic 190, 3) := by decide +kernel
theorem dX10_askNext_107 : decode cX10_askNext 107 = .ok (.ifCond .eq 7, 3) := by decide +kernel
theorem dX10_askNext_110 : decode cX10_askNext 110 = .ok (.iconst 1, 1) := by decide +kernel
theorem dX10_askNext_111 : decode cX10_askNext 111 = .ok (.goto 4, 3) := by decide +kernel
theorem dX10_askNext_114 : decode cX10_askNext 114 = .ok (.iconst 0, 1) := by decide +kernel
theorem dX10_askNext_115 : decode cX10_askNext 115 = .ok (.iadd, 1) := by decide +kernel
theorem dX10_askNext_116 : decode cX10_askNext 116 = .ok (.istore 6, 2) := by decide +kernel
theorem dX10_askNext_118 : decode cX10_askNext 118 = .ok (.iinc 7 1, 3) := by decide +kernel
theorem dX10_askNext_121 : decode cX10_askNext 121 = .ok (.goto (-50), 3) := by decide +kernel
theorem dX10_askNext_124 : decode cX10_askNext 124 = .ok (.iload 6, 2) := by decide +kernel
theorem dX10_askNext_126 : decode cX10_askNext 126 = .ok (.iload_n 2, 1) := by decide +kernel
theorem dX10_askNext_127 : decode cX10_askNext 127 = .ok (.iload 6, 2) := by decide +kernel
theorem dX10_askNext_129 : decode cX10_askNext 129 = .ok (.isub, 1) := by decide +kernel
theorem dX10_askNext_130 : decode cX10_askNext 130 = .ok (.invokestatic 180, 3) := by decide +kernel
theorem dX10_askNext_133 : decode cX10_askNext 133 = .ok (.istore 7, 2) := by decide +kernel
theorem dX10_askNext_135 : decode cX10_askNext 135 = .ok (.iload 7, 2) := by decide +kernel
theorem dX10_askNext_137 : decode cX10_askNext 137 = .ok (.iload 4, 2) := by decide +kernel
theorem dX10_askNext_139 : decode cX10_askNext 139 = .ok (.if_icmp .ge 8, 3) := by decide +kernel
theorem dX10_askNext_142 : decode cX10_askNext 142 = .ok (.iload 5, 2) := by decide +kernel
theorem dX10_askNext_144 : decode cX10_askNext 144 = .ok (.goto 4, 3) := by decide +kernel
theorem dX10_askNext_147 : decode cX10_askNext 147 = .ok (.iload_n 3, 1) := by decide +kernel
theorem dX10_askNext_148 : decode cX10_askNext 148 = .ok (.istore_n 3, 1) := by decide +kernel
theorem dX10_askNext_149 : decode cX10_askNext 149 = .ok (.iload 7, 2) := by decide +kernel
theorem dX10_askNext_151 : decode cX10_askNext 151 = .ok (.iload 4, 2) := by decide +kernel
theorem dX10_askNext_153 : decode cX10_askNext 153 = .ok (.invokestatic 183, 3) := by decide +kernel
theorem dX10_askNext_156 : decode cX10_askNext 156 = .ok (.istore 4, 2) := by decide +kernel
theorem dX10_askNext_158 : decode cX10_askNext 158 = .ok (.iinc 5 1, 3) := by decide +kernel
theorem dX10_askNext_161 : decode cX10_askNext 161 = .ok (.goto (-105), 3) := by decide +kernel
theorem dX10_askNext_164 : decode cX10_askNext 164 = .ok (.iload_n 3, 1) := by decide +kernel
theorem dX10_askNext_165 : decode cX10_askNext 165 = .ok (.ireturn, 1) := by decide +kernel
theorem dX10_write_0 : decode cX10_write 0 = .ok (.aload_n 0, 1) := by decide +kernel
theorem dX10_write_1 : decode cX10_write 1 = .ok (.iload_n 1, 1) := by decide +kernel
theorem dX10_write_2 : decode cX10_write 2 = .ok (.invokevirtual 168, 3) := by decide +kernel
theorem dX10_write_5 : decode cX10_write 5 = .ok (.ifCond .ne 6, 3) := by decide +kernel
theorem dX10_write_8 : decode cX10_write 8 = .ok (.ldc 172, 2) := by decide +kernel
theorem dX10_write_10 : decode cX10_write 10 = .ok (.ireturn, 1) := by decide +kernel
theorem dX10_write_11 : decode cX10_write 11 = .ok (.iload_n 2, 1) := by decide +kernel
theorem dX10_write_12 : decode cX10_write 12 = .ok (.i2l, 1) := by decide +kernel
theorem dX10_write_13 : decode cX10_write 13 = .ok (.lconst 0, 1) := by decide +kernel
theorem dX10_write_14 : decode cX10_write 14 = .ok (.ldc2_w 273, 3) := by decide +kernel
theorem dX10_write_17 : decode cX10_write 17 = .ok (.invokestatic 87, 3) := by decide +kernel
theorem dX10_write_20 : decode cX10_write 20 = .ok (.ifCond .ne 6, 3) := by decide +kernel
theorem dX10_write_23 : decode cX10_write 23 = .ok (.ldc 96, 2) := by decide +kernel
theorem dX10_write_25 : decode cX10_write 25 = .ok (.ireturn, 1) := by decide +kernel
theorem dX10_write_26 : decode cX10_write 26 = .ok (.aload_n 0, 1) := by decide +kernel
theorem dX10_write_27 : decode cX10_write 27 = .ok (.getfield 162, 3) := by decide +kernel
theorem dX10_write_30 : decode cX10_write 30 = .ok (.bipush 15, 2) := by decide +kernel
theorem dX10_write_32 : decode cX10_write 32 = .ok (.if_icmp .ne 6, 3) := by decide +kernel
theorem dX10_write_35 : decode cX10_write 35 = .ok (.ldc 100, 2) := by decide +kernel
theorem dX10_write_37 : decode cX10_write 37 = .ok (.ireturn, 1) := by decide +kernel
theorem dX10_write_38 : decode cX10_write 38 = .ok (.aload_n 0, 1) := by decide +kernel
theorem dX10_write_39 : decode cX10_write 39 = .ok (.getfield 69, 3) := by decide +kernel
theorem dX10_write_42 : decode cX10_write 42 = .ok (.aload_n 0, 1) := by decide +kernel
theorem dX10_write_43 : decode cX10_write 43 = .ok (.getfield 162, 3) := by decide +kernel
theorem dX10_write_46 : decode cX10_write 46 = .ok (.iload_n 1, 1) := by decide +kernel
theorem dX10_write_47 : decode cX10_write 47 = .ok (.iastore, 1) := by decide +kernel
theorem dX10_write_48 : decode cX10_write 48 = .ok (.aload_n 0, 1) := by decide +kernel
theorem dX10_write_49 : decode cX10_write 49 = .ok (.getfield 72, 3) := by decide +kernel
theorem dX10_write_52 : decode cX10_write 52 = .ok (.aload_n 0, 1) := by decide +kernel
theorem dX10_write_53 : decode cX10_write 53 = .ok (.getfield 162, 3) := by decide +kernel
theorem dX10_write_56 : decode cX10_write 56 = .ok (.iload_n 2, 1) := by decide +kernel
theorem dX10_write_57 : decode cX10_write 57 = .ok (.iastore, 1) := by decide +kernel
theorem dX10_write_58 : decode cX10_write 58 = .ok (.aload_n 0, 1) := by decide +kernel
theorem dX10_write_59 : decode cX10_write 59 = .ok (.dup, 1) := by decide +kernel
theorem dX10_write_60 : decode cX10_write 60 = .ok (.getfield 162, 3) := by decide +kernel
theorem dX10_write_63 : decode cX10_write 63 = .ok (.iconst 1, 1) := by decide +kernel
theorem dX10_write_64 : decode cX10_write 64 = .ok (.iadd, 1) := by decide +kernel
theorem dX10_write_65 : decode cX10_write 65 = .ok (.putfield 162, 3) := by decide +kernel
theorem dX10_write_68 : decode cX10_write 68 = .ok (.aload_n 0, 1) := by decide +kernel
theorem dX10_write_69 : decode cX10_write 69 = .ok (.getfield 162, 3) := by decide +kernel
theorem dX10_write_72 : decode cX10_write 72 = .ok (.ireturn, 1) := by decide +kernel
theorem dX10_tear_0 : decode cX10_tear 0 = .ok (.aload_n 0, 1) := by decide +kernel
theorem dX10_tear_1 : decode cX10_tear 1 = .ok (.getfield 159, 3) := by decide +kernel
theorem dX10_tear_4 : decode cX10_tear 4 = .ok (.aload_n 0, 1) := by decide +kernel
theorem dX10_tear_5 : decode cX10_tear 5 = .ok (.getfield 162, 3) := by decide +kernel
theorem dX10_tear_8 : decode cX10_tear 8 = .ok (.iadd, 1) := by decide +kernel
theorem dX10_tear_9 : decode cX10_tear 9 = .ok (.istore_n 1, 1) := by decide +kernel
theorem dX10_tear_10 : decode cX10_tear 10 = .ok (.aload_n 0, 1) := by decide +kernel
theorem dX10_tear_11 : decode cX10_tear 11 = .ok (.iconst 0, 1) := by decide +kernel
theorem dX10_tear_12 : decode cX10_tear 12 = .ok (.putfield 159, 3) := by decide +kernel
theorem dX10_tear_15 : decode cX10_tear 15 = .ok (.aload_n 0, 1) := by decide +kernel
theorem dX10_tear_16 : decode cX10_tear 16 = .ok (.iconst 0, 1) := by decide +kernel
theorem dX10_tear_17 : decode cX10_tear 17 = .ok (.putfield 162, 3) := by decide +kernel
theorem dX10_tear_20 : decode cX10_tear 20 = .ok (.iload_n 1, 1) := by decide +kernel
theorem dX10_tear_21 : decode cX10_tear 21 = .ok (.ireturn, 1) := by decide +kernel
theorem dX10_judge_0 : decode cX10_judge 0 = .ok (.iconst 0, 1) := by decide +kernel
theorem dX10_judge_1 : decode cX10_judge 1 = .ok (.istore_n 1, 1) := by decide +kernel
theorem dX10_judge_2 : decode cX10_judge 2 = .ok (.iload_n 1, 1) := by decide +kernel
theorem dX10_judge_3 : decode cX10_judge 3 = .ok (.aload_n 0, 1) := by decide +kernel
theorem dX10_judge_4 : decode cX10_judge 4 = .ok (.getfield 162, 3) := by decide +kernel
theorem dX10_judge_7 : decode cX10_judge 7 = .ok (.if_icmp .ge 31, 3) := by decide +kernel
theorem dX10_judge_10 : decode cX10_judge 10 = .ok (.aload_n 0, 1) := by decide +kernel
theorem dX10_judge_11 : decode cX10_judge 11 = .ok (.getfield 22, 3) := by decide +kernel
theorem dX10_judge_14 : decode cX10_judge 14 = .ok (.aload_n 0, 1) := by decide +kernel
theorem dX10_judge_15 : decode cX10_judge 15 = .ok (.getfield 69, 3) := by decide +kernel
theorem dX10_judge_18 : decode cX10_judge 18 = .ok (.iload_n 1, 1) := by decide +kernel
theorem dX10_judge_19 : decode cX10_judge 19 = .ok (.iaload, 1) := by decide +kernel
theorem dX10_judge_20 : decode cX10_judge 20 = .ok (.iaload, 1) := by decide +kernel
theorem dX10_judge_21 : decode cX10_judge 21 = .ok (.aload_n 0, 1) := by decide +kernel
theorem dX10_judge_22 : decode cX10_judge 22 = .ok (.getfield 72, 3) := by decide +kernel
theorem dX10_judge_25 : decode cX10_judge 25 = .ok (.iload_n 1, 1) := by decide +kernel
theorem dX10_judge_26 : decode cX10_judge 26 = .ok (.iaload, 1) := by decide +kernel
theorem dX10_judge_27 : decode cX10_judge 27 = .ok (.if_icmp .eq 5, 3) := by decide +kernel
theorem dX10_judge_30 : decode cX10_judge 30 = .ok (.iload_n 1, 1) := by decide +kernel
theorem dX10_judge_31 : decode cX10_judge 31 = .ok (.ireturn, 1) := by decide +kernel
theorem dX10_judge_32 : decode cX10_judge 32 = .ok (.iinc 1 1, 3) := by decide +kernel
theorem dX10_judge_35 : decode cX10_judge 35 = .ok (.goto (-33), 3) := by decide +kernel
theorem dX10_judge_38 : decode cX10_judge 38 = .ok (.iconst (-1), 1) := by decide +kernel
theorem dX10_judge_39 : decode cX10_judge 39 = .ok (.ireturn, 1) := by decide +kernel
theorem dX10_seed_0 : decode cX10_seed 0 = .ok (.iload_n 1, 1) := by decide +kernel
theorem dX10_seed_1 : decode cX10_seed 1 = .ok (.ifCond .ge 6, 3) := by decide +kernel
theorem dX10_seed_4 : decode cX10_seed 4 = .ok (.ldc 96, 2) := by decide +kernel
theorem dX10_seed_6 : decode cX10_seed 6 = .ok (.ireturn, 1) := by decide +kernel
theorem dX10_seed_7 : decode cX10_seed 7 = .ok (.aload_n 0, 1) := by decide +kernel
theorem dX10_seed_8 : decode cX10_seed 8 = .ok (.getfield 219, 3) := by decide +kernel
theorem dX10_seed_11 : decode cX10_seed 11 = .ok (.istore_n 2, 1) := by decide +kernel
theorem dX10_seed_12 : decode cX10_seed 12 = .ok (.aload_n 0, 1) := by decide +kernel
theorem dX10_seed_13 : decode cX10_seed 13 = .ok (.iload_n 1, 1) := by decide +kernel
theorem dX10_seed_14 : decode cX10_seed 14 = .ok (.putfield 219, 3) := by decide +kernel
theorem dX10_seed_17 : decode cX10_seed 17 = .ok (.iload_n 2, 1) := by decide +kernel
theorem dX10_seed_18 : decode cX10_seed 18 = .ok (.ireturn, 1) := by decide +kernel
theorem dX10_keep_0 : decode cX10_keep 0 = .ok (.iload_n 1, 1) := by decide +kernel
theorem dX10_keep_1 : decode cX10_keep 1 = .ok (.i2l, 1) := by decide +kernel
theorem dX10_keep_2 : decode cX10_keep 2 = .ok (.lconst 0, 1) := by decide +kernel
theorem dX10_keep_3 : decode cX10_keep 3 = .ok (.lconst 1, 1) := by decide +kernel
theorem dX10_keep_4 : decode cX10_keep 4 = .ok (.invokestatic 87, 3) := by decide +kernel
theorem dX10_keep_7 : decode cX10_keep 7 = .ok (.ifCond .ne 6, 3) := by decide +kernel
theorem dX10_keep_10 : decode cX10_keep 10 = .ok (.ldc 172, 2) := by decide +kernel
theorem dX10_keep_12 : decode cX10_keep 12 = .ok (.ireturn, 1) := by decide +kernel
theorem dX10_keep_13 : decode cX10_keep 13 = .ok (.iconst 0, 1) := by decide +kernel
theorem dX10_keep_14 : decode cX10_keep 14 = .ok (.istore_n 2, 1) := by decide +kernel
theorem dX10_keep_15 : decode cX10_keep 15 = .ok (.iload_n 2, 1) := by decide +kernel
theorem dX10_keep_16 : decode cX10_keep 16 = .ok (.bipush 19, 2) := by decide +kernel
theorem dX10_keep_18 : decode cX10_keep 18 = .ok (.if_icmp .ge 26, 3) := by decide +kernel
theorem dX10_keep_21 : decode cX10_keep 21 = .ok (.aload_n 0, 1) := by decide +kernel
theorem dX10_keep_22 : decode cX10_keep 22 = .ok (.getfield 75, 3) := by decide +kernel
theorem dX10_keep_25 : decode cX10_keep 25 = .ok (.bipush 20, 2) := by decide +kernel
theorem dX10_keep_27 : decode cX10_keep 27 = .ok (.iload_n 1, 1) := by decide +kernel
theorem dX10_keep_28 : decode cX10_keep 28 = .ok (.imul, 1) := by decide +kernel
theorem dX10_keep_29 : decode cX10_keep 29 = .ok (.iload_n 2, 1) := by decide +kernel
theorem dX10_keep_30 : decode cX10_keep 30 = .ok (.iadd, 1) := by decide +kernel
theorem dX10_keep_31 : decode cX10_keep 31 = .ok (.aload_n 0, 1) := by decide +kernel
theorem dX10_keep_32 : decode cX10_keep 32 = .ok (.getfield 22, 3) := by decide +kernel
theorem dX10_keep_35 : decode cX10_keep 35 = .ok (.iload_n 2, 1) := by decide +kernel
theorem dX10_keep_36 : decode cX10_keep 36 = .ok (.iaload, 1) := by decide +kernel
theorem dX10_keep_37 : decode cX10_keep 37 = .ok (.iastore, 1) := by decide +kernel
theorem dX10_keep_38 : decode cX10_keep 38 = .ok (.iinc 2 1, 3) := by decide +kernel
theorem dX10_keep_41 : decode cX10_keep 41 = .ok (.goto (-26), 3) := by decide +kernel
theorem dX10_keep_44 : decode cX10_keep 44 = .ok (.aload_n 0, 1) := by decide +kernel
theorem dX10_keep_45 : decode cX10_keep 45 = .ok (.getfield 75, 3) := by decide +kernel
theorem dX10_keep_48 : decode cX10_keep 48 = .ok (.bipush 20, 2) := by decide +kernel
theorem dX10_keep_50 : decode cX10_keep 50 = .ok (.iload_n 1, 1) := by decide +kernel
theorem dX10_keep_51 : decode cX10_keep 51 = .ok (.imul, 1) := by decide +kernel
theorem dX10_keep_52 : decode cX10_keep 52 = .ok (.bipush 19, 2) := by decide +kernel
theorem dX10_keep_54 : decode cX10_keep 54 = .ok (.iadd, 1) := by decide +kernel
theorem dX10_keep_55 : decode cX10_keep 55 = .ok (.aload_n 0, 1) := by decide +kernel
theorem dX10_keep_56 : decode cX10_keep 56 = .ok (.getfield 219, 3) := by decide +kernel
theorem dX10_keep_59 : decode cX10_keep 59 = .ok (.iastore, 1) := by decide +kernel
theorem dX10_keep_60 : decode cX10_keep 60 = .ok (.aload_n 0, 1) := by decide +kernel
theorem dX10_keep_61 : decode cX10_keep 61 = .ok (.getfield 78, 3) := by decide +kernel
theorem dX10_keep_64 : decode cX10_keep 64 = .ok (.iload_n 1, 1) := by decide +kernel
theorem dX10_keep_65 : decode cX10_keep 65 = .ok (.iconst 1, 1) := by decide +kernel
theorem dX10_keep_66 : decode cX10_keep 66 = .ok (.bastore, 1) := by decide +kernel
theorem dX10_keep_67 : decode cX10_keep 67 = .ok (.aload_n 0, 1) := by decide +kernel
theorem dX10_keep_68 : decode cX10_keep 68 = .ok (.iconst 0, 1) := by decide +kernel
theorem dX10_keep_69 : decode cX10_keep 69 = .ok (.putfield 165, 3) := by decide +kernel
theorem dX10_keep_72 : decode cX10_keep 72 = .ok (.iconst 1, 1) := by decide +kernel
theorem dX10_keep_73 : decode cX10_keep 73 = .ok (.ireturn, 1) := by decide +kernel
theorem dX10_goBack_0 : decode cX10_goBack 0 = .ok (.iload_n 1, 1) := by decide +kernel
theorem dX10_goBack_1 : decode cX10_goBack 1 = .ok (.i2l, 1) := by decide +kernel
theorem dX10_goBack_2 : decode cX10_goBack 2 = .ok (.lconst 0, 1) := by decide +kernel
theorem dX10_goBack_3 : decode cX10_goBack 3 = .ok (.lconst 1, 1) := by decide +kernel
theorem dX10_goBack_4 : decode cX10_goBack 4 = .ok (.invokestatic 87, 3) := by decide +kernel
theorem dX10_goBack_7 : decode cX10_goBack 7 = .ok (.ifCond .ne 6, 3) := by decide +kernel
theorem dX10_goBack_10 : decode cX10_goBack 10 = .ok (.ldc 172, 2) := by decide +kernel
theorem dX10_goBack_12 : decode cX10_goBack 12 = .ok (.ireturn, 1) := by decide +kernel
theorem dX10_goBack_13 : decode cX10_goBack 13 = .ok (.aload_n 0, 1) := by decide +kernel
theorem dX10_goBack_14 : decode cX10_goBack 14 = .ok (.getfield 78, 3) := by decide +kernel
theorem dX10_goBack_17 : decode cX10_goBack 17 = .ok (.iload_n 1, 1) := by decide +kernel
theorem dX10_goBack_18 : decode cX10_goBack 18 = .ok (.baload, 1) := by decide +kernel
theorem dX10_goBack_19 : decode cX10_goBack 19 = .ok (.ifCond .ne 6, 3) := by decide +kernel
theorem dX10_goBack_22 : decode cX10_goBack 22 = .ok (.ldc 205, 2) := by decide +kernel
theorem dX10_goBack_24 : decode cX10_goBack 24 = .ok (.ireturn, 1) := by decide +kernel
theorem dX10_goBack_25 : decode cX10_goBack 25 = .ok (.iconst 0, 1) := by decide +kernel
theorem dX10_goBack_26 : decode cX10_goBack 26 = .ok (.istore_n 2, 1) := by decide +kernel
theorem dX10_goBack_27 : decode cX10_goBack 27 = .ok (.iload_n 2, 1) := by decide +kernel
theorem dX10_goBack_28 : decode cX10_goBack 28 = .ok (.bipush 19, 2) := by decide +kernel
theorem dX10_goBack_30 : decode cX10_goBack 30 = .ok (.if_icmp .ge 26, 3) := by decide +kernel
theorem dX10_goBack_33 : decode cX10_goBack 33 = .ok (.aload_n 0, 1) := by decide +kernel
theorem dX10_goBack_34 : decode cX10_goBack 34 = .ok (.getfield 22, 3) := by decide +kernel
theorem dX10_goBack_37 : decode cX10_goBack 37 = .ok (.iload_n 2, 1) := by decide +kernel
theorem dX10_goBack_38 : decode cX10_goBack 38 = .ok (.aload_n 0, 1) := by decide +kernel
theorem dX10_goBack_39 : decode cX10_goBack 39 = .ok (.getfield 75, 3) := by decide +kernel
theorem dX10_goBack_42 : decode cX10_goBack 42 = .ok (.bipush 20, 2) := by decide +kernel
theorem dX10_goBack_44 : decode cX10_goBack 44 = .ok (.iload_n 1, 1) := by decide +kernel
theorem dX10_goBack_45 : decode cX10_goBack 45 = .ok (.imul, 1) := by decide +kernel
theorem dX10_goBack_46 : decode cX10_goBack 46 = .ok (.iload_n 2, 1) := by decide +kernel
theorem dX10_goBack_47 : decode cX10_goBack 47 = .ok (.iadd, 1) := by decide +kernel
theorem dX10_goBack_48 : decode cX10_goBack 48 = .ok (.iaload, 1) := by decide +kernel
theorem dX10_goBack_49 : decode cX10_goBack 49 = .ok (.iastore, 1) := by decide +kernel
theorem dX10_goBack_50 : decode cX10_goBack 50 = .ok (.iinc 2 1, 3) := by decide +kernel
theorem dX10_goBack_53 : decode cX10_goBack 53 = .ok (.goto (-26), 3) := by decide +kernel
theorem dX10_goBack_56 : decode cX10_goBack 56 = .ok (.aload_n 0, 1) := by decide +kernel
theorem dX10_goBack_57 : decode cX10_goBack 57 = .ok (.aload_n 0, 1) := by decide +kernel
theorem dX10_goBack_58 : decode cX10_goBack 58 = .ok (.getfield 75, 3) := by decide +kernel
theorem dX10_goBack_61 : decode cX10_goBack 61 = .ok (.bipush 20, 2) := by decide +kernel
theorem dX10_goBack_63 : decode cX10_goBack 63 = .ok (.iload_n 1, 1) := by decide +kernel
theorem dX10_goBack_64 : decode cX10_goBack 64 = .ok (.imul, 1) := by decide +kernel
theorem dX10_goBack_65 : decode cX10_goBack 65 = .ok (.bipush 19, 2) := by decide +kernel
theorem dX10_goBack_67 : decode cX10_goBack 67 = .ok (.iadd, 1) := by decide +kernel
theorem dX10_goBack_68 : decode cX10_goBack 68 = .ok (.iaload, 1) := by decide +kernel
theorem dX10_goBack_69 : decode cX10_goBack 69 = .ok (.putfield 219, 3) := by decide +kernel
theorem dX10_goBack_72 : decode cX10_goBack 72 = .ok (.aload_n 0, 1) := by decide +kernel
theorem dX10_goBack_73 : decode cX10_goBack 73 = .ok (.iconst 0, 1) := by decide +kernel
theorem dX10_goBack_74 : decode cX10_goBack 74 = .ok (.putfield 165, 3) := by decide +kernel
theorem dX10_goBack_77 : decode cX10_goBack 77 = .ok (.iconst 1, 1) := by decide +kernel
theorem dX10_goBack_78 : decode cX10_goBack 78 = .ok (.ireturn, 1) := by decide +kernel
end
section
theorem dL_law_0 : decode cL_law 0 = .ok (.new 7, 3) := by decide +kernel
theorem dL_law_3 : decode cL_law 3 = .ok (.dup, 1) := by decide +kernel
theorem dL_law_4 : decode cL_law 4 = .ok (.invokespecial 9, 3) := by decide +kernel
theorem dL_law_7 : decode cL_law 7 = .ok (.astore_n 1, 1) := by decide +kernel
theorem dL_law_8 : decode cL_law 8 = .ok (.new 10, 3) := by decide +kernel
theorem dL_law_11 : decode cL_law 11 = .ok (.dup, 1) := by decide +kernel
theorem dL_law_12 : decode cL_law 12 = .ok (.invokespecial 12, 3) := by decide +kernel
theorem dL_law_15 : decode cL_law 15 = .ok (.astore_n 2, 1) := by decide +kernel
theorem dL_law_16 : decode cL_law 16 = .ok (.iconst 0, 1) := by decide +kernel
theorem dL_law_17 : decode cL_law 17 = .ok (.istore_n 3, 1) := by decide +kernel
theorem dL_law_18 : decode cL_law 18 = .ok (.iload_n 3, 1) := by decide +kernel
theorem dL_law_19 : decode cL_law 19 = .ok (.aload_n 0, 1) := by decide +kernel
theorem dL_law_20 : decode cL_law 20 = .ok (.arraylength, 1) := by decide +kernel
theorem dL_law_21 : decode cL_law 21 = .ok (.iconst 4, 1) := by decide +kernel
theorem dL_law_22 : decode cL_law 22 = .ok (.isub, 1) := by decide +kernel
theorem dL_law_23 : decode cL_law 23 = .ok (.if_icmp .gt 819, 3) := by decide +kernel
theorem dL_law_26 : decode cL_law 26 = .ok (.aload_n 0, 1) := by decide +kernel
theorem dL_law_27 : decode cL_law 27 = .ok (.iload_n 3, 1) := by decide +kernel
theorem dL_law_28 : decode cL_law 28 = .ok (.iaload, 1) := by decide +kernel
theorem dL_law_29 : decode cL_law 29 = .ok (.bipush 31, 2) := by decide +kernel
theorem dL_law_31 : decode cL_law 31 = .ok (.iand, 1) := by decide +kernel
theorem dL_law_32 : decode cL_law 32 = .ok (.tableswitch 804 0 27 #[128, 151, 164, 177, 200, 233, 256, 305, 328, 351, 374, 387, 410, 433, 446, 469, 482, 505, 528, 571, 620, 653, 676, 709, 722, 735, 758, 781], 128) := by decide +kernel
theorem dL_law_160 : decode cL_law 160 = .ok (.aload_n 1, 1) := by decide +kernel
theorem dL_law_161 : decode cL_law 161 = .ok (.aload_n 0, 1) := by decide +kernel
theorem dL_law_162 : decode cL_law 162 = .ok (.iload_n 3, 1) := by decide +kernel
theorem dL_law_163 : decode cL_law 163 = .ok (.iconst 1, 1) := by decide +kernel
theorem dL_law_164 : decode cL_law 164 = .ok (.iadd, 1) := by decide +kernel
theorem dL_law_165 : decode cL_law 165 = .ok (.iaload, 1) := by decide +kernel
theorem dL_law_166 : decode cL_law 166 = .ok (.invokevirtual 13, 3) := by decide +kernel
theorem dL_law_169 : decode cL_law 169 = .ok (.aload_n 2, 1) := by decide +kernel
theorem dL_law_170 : decode cL_law 170 = .ok (.aload_n 0, 1) := by decide +kernel
theorem dL_law_171 : decode cL_law 171 = .ok (.iload_n 3, 1) := by decide +kernel
theorem dL_law_172 : decode cL_law 172 = .ok (.iconst 1, 1) := by decide +kernel
theorem dL_law_173 : decode cL_law 173 = .ok (.iadd, 1) := by decide +kernel
theorem dL_law_174 : decode cL_law 174 = .ok (.iaload, 1) := by decide +kernel
theorem dL_law_175 : decode cL_law 175 = .ok (.invokevirtual 17, 3) := by decide +kernel
theorem dL_law_178 : decode cL_law 178 = .ok (.if_icmp .eq 658, 3) := by decide +kernel
theorem dL_law_181 : decode cL_law 181 = .ok (.iconst 0, 1) := by decide +kernel
theorem dL_law_182 : decode cL_law 182 = .ok (.ireturn, 1) := by decide +kernel
theorem dL_law_183 : decode cL_law 183 = .ok (.aload_n 1, 1) := by decide +kernel
theorem dL_law_184 : decode cL_law 184 = .ok (.invokevirtual 18, 3) := by decide +kernel
theorem dL_law_187 : decode cL_law 187 = .ok (.aload_n 2, 1) := by decide +kernel
theorem dL_law_188 : decode cL_law 188 = .ok (.invokevirtual 22, 3) := by decide +kernel
theorem dL_law_191 : decode cL_law 191 = .ok (.if_icmp .eq 645, 3) := by decide +kernel
theorem dL_law_194 : decode cL_law 194 = .ok (.iconst 0, 1) := by decide +kernel
theorem dL_law_195 : decode cL_law 195 = .ok (.ireturn, 1) := by decide +kernel
theorem dL_law_196 : decode cL_law 196 = .ok (.aload_n 1, 1) := by decide +kernel
theorem dL_law_197 : decode cL_law 197 = .ok (.invokevirtual 23, 3) := by decide +kernel
theorem dL_law_200 : decode cL_law 200 = .ok (.aload_n 2, 1) := by decide +kernel
theorem dL_law_201 : decode cL_law 201 = .ok (.invokevirtual 26, 3) := by decide +kernel
theorem dL_law_204 : decode cL_law 204 = .ok (.if_icmp .eq 632, 3) := by decide +kernel
theorem dL_law_207 : decode cL_law 207 = .ok (.iconst 0, 1) := by decide +kernel
theorem dL_law_208 : decode cL_law 208 = .ok (.ireturn, 1) := by decide +kernel
theorem dL_law_209 : decode cL_law 209 = .ok (.aload_n 1, 1) := by decide +kernel
theorem dL_law_210 : decode cL_law 210 = .ok (.aload_n 0, 1) := by decide +kernel
theorem dL_law_211 : decode cL_law 211 = .ok (.iload_n 3, 1) := by decide +kernel
theorem dL_law_212 : decode cL_law 212 = .ok (.iconst 1, 1) := by decide +kernel
theorem dL_law_213 : decode cL_law 213 = .ok (.iadd, 1) := by decide +kernel
theorem dL_law_214 : decode cL_law 214 = .ok (.iaload, 1) := by decide +kernel
theorem dL_law_215 : decode cL_law 215 = .ok (.invokevirtual 27, 3) := by decide +kernel
theorem dL_law_218 : decode cL_law 218 = .ok (.aload_n 2, 1) := by decide +kernel
theorem dL_law_219 : decode cL_law 219 = .ok (.aload_n 0, 1) := by decide +kernel
theorem dL_law_220 : decode cL_law 220 = .ok (.iload_n 3, 1) := by decide +kernel
theorem dL_law_221 : decode cL_law 221 = .ok (.iconst 1, 1) := by decide +kernel
theorem dL_law_222 : decode cL_law 222 = .ok (.iadd, 1) := by decide +kernel
theorem dL_law_223 : decode cL_law 223 = .ok (.iaload, 1) := by decide +kernel
theorem dL_law_224 : decode cL_law 224 = .ok (.invokevirtual 30, 3) := by decide +kernel
theorem dL_law_227 : decode cL_law 227 = .ok (.if_icmp .eq 609, 3) := by decide +kernel
theorem dL_law_230 : decode cL_law 230 = .ok (.iconst 0, 1) := by decide +kernel
theorem dL_law_231 : decode cL_law 231 = .ok (.ireturn, 1) := by decide +kernel
theorem dL_law_232 : decode cL_law 232 = .ok (.aload_n 1, 1) := by decide +kernel
theorem dL_law_233 : decode cL_law 233 = .ok (.aload_n 0, 1) := by decide +kernel
theorem dL_law_234 : decode cL_law 234 = .ok (.iload_n 3, 1) := by decide +kernel
theorem dL_law_235 : decode cL_law 235 = .ok (.iconst 1, 1) := by decide +kernel
theorem dL_law_236 : decode cL_law 236 = .ok (.iadd, 1) := by decide +kernel
theorem dL_law_237 : decode cL_law 237 = .ok (.iaload, 1) := by decide +kernel
theorem dL_law_238 : decode cL_law 238 = .ok (.aload_n 0, 1) := by decide +kernel
theorem dL_law_239 : decode cL_law 239 = .ok (.iload_n 3, 1) := by decide +kernel
theorem dL_law_240 : decode cL_law 240 = .ok (.iconst 2, 1) := by decide +kernel
theorem dL_law_241 : decode cL_law 241 = .ok (.iadd, 1) := by decide +kernel
theorem dL_law_242 : decode cL_law 242 = .ok (.iaload, 1) := by decide +kernel
theorem dL_law_243 : decode cL_law 243 = .ok (.invokevirtual 31, 3) := by decide +kernel
theorem dL_law_246 : decode cL_law 246 = .ok (.aload_n 2, 1) := by decide +kernel
theorem dL_law_247 : decode cL_law 247 = .ok (.aload_n 0, 1) := by decide +kernel
theorem dL_law_248 : decode cL_law 248 = .ok (.iload_n 3, 1) := by decide +kernel
theorem dL_law_249 : decode cL_law 249 = .ok (.iconst 1, 1) := by decide +kernel
theorem dL_law_250 : decode cL_law 250 = .ok (.iadd, 1) := by decide +kernel
theorem dL_law_251 : decode cL_law 251 = .ok (.iaload, 1) := by decide +kernel
theorem dL_law_252 : decode cL_law 252 = .ok (.aload_n 0, 1) := by decide +kernel
theorem dL_law_253 : decode cL_law 253 = .ok (.iload_n 3, 1) := by decide +kernel
theorem dL_law_254 : decode cL_law 254 = .ok (.iconst 2, 1) := by decide +kernel
theorem dL_law_255 : decode cL_law 255 = .ok (.iadd, 1) := by decide +kernel
theorem dL_law_256 : decode cL_law 256 = .ok (.iaload, 1) := by decide +kernel
theorem dL_law_257 : decode cL_law 257 = .ok (.invokevirtual 35, 3) := by decide +kernel
theorem dL_law_260 : decode cL_law 260 = .ok (.if_icmp .eq 576, 3) := by decide +kernel
theorem dL_law_263 : decode cL_law 263 = .ok (.iconst 0, 1) := by decide +kernel
theorem dL_law_264 : decode cL_law 264 = .ok (.ireturn, 1) := by decide +kernel
theorem dL_law_265 : decode cL_law 265 = .ok (.aload_n 1, 1) := by decide +kernel
theorem dL_law_266 : decode cL_law 266 = .ok (.aload_n 0, 1) := by decide +kernel
theorem dL_law_267 : decode cL_law 267 = .ok (.iload_n 3, 1) := by decide +kernel
theorem dL_law_268 : decode cL_law 268 = .ok (.iconst 1, 1) := by decide +kernel
theorem dL_law_269 : decode cL_law 269 = .ok (.iadd, 1) := by decide +kernel
theorem dL_law_270 : decode cL_law 270 = .ok (.iaload, 1) := by decide +kernel
theorem dL_law_271 : decode cL_law 271 = .ok (.invokevirtual 36, 3) := by decide +kernel
theorem dL_law_274 : decode cL_law 274 = .ok (.aload_n 2, 1) := by decide +kernel
theorem dL_law_275 : decode cL_law 275 = .ok (.aload_n 0, 1) := by decide +kernel
theorem dL_law_276 : decode cL_law 276 = .ok (.iload_n 3, 1) := by decide +kernel
theorem dL_law_277 : decode cL_law 277 = .ok (.iconst 1, 1) := by decide +kernel
theorem dL_law_278 : decode cL_law 278 = .ok (.iadd, 1) := by decide +kernel
theorem dL_law_279 : decode cL_law 279 = .ok (.iaload, 1) := by decide +kernel
theorem dL_law_280 : decode cL_law 280 = .ok (.invokevirtual 39, 3) := by decide +kernel
theorem dL_law_283 : decode cL_law 283 = .ok (.if_icmp .eq 553, 3) := by decide +kernel
theorem dL_law_286 : decode cL_law 286 = .ok (.iconst 0, 1) := by decide +kernel
theorem dL_law_287 : decode cL_law 287 = .ok (.ireturn, 1) := by decide +kernel
theorem dL_law_288 : decode cL_law 288 = .ok (.aload_n 1, 1) := by decide +kernel
theorem dL_law_289 : decode cL_law 289 = .ok (.aload_n 0, 1) := by decide +kernel
theorem dL_law_290 : decode cL_law 290 = .ok (.iload_n 3, 1) := by decide +kernel
theorem dL_law_291 : decode cL_law 291 = .ok (.iconst 1, 1) := by decide +kernel
theorem dL_law_292 : decode cL_law 292 = .ok (.iadd, 1) := by decide +kernel
theorem dL_law_293 : decode cL_law 293 = .ok (.iaload, 1) := by decide +kernel
theorem dL_law_294 : decode cL_law 294 = .ok (.aload_n 0, 1) := by decide +kernel
theorem dL_law_295 : decode cL_law 295 = .ok (.iload_n 3, 1) := by decide +kernel
theorem dL_law_296 : decode cL_law 296 = .ok (.iconst 2, 1) := by decide +kernel
theorem dL_law_297 : decode cL_law 297 = .ok (.iadd, 1) := by decide +kernel
theorem dL_law_298 : decode cL_law 298 = .ok (.iaload, 1) := by decide +kernel
theorem dL_law_299 : decode cL_law 299 = .ok (.ifCond .eq 7, 3) := by decide +kernel
theorem dL_law_302 : decode cL_law 302 = .ok (.iconst 1, 1) := by decide +kernel
theorem dL_law_303 : decode cL_law 303 = .ok (.goto 4, 3) := by decide +kernel
theorem dL_law_306 : decode cL_law 306 = .ok (.iconst 0, 1) := by decide +kernel
theorem dL_law_307 : decode cL_law 307 = .ok (.invokevirtual 40, 3) := by decide +kernel
theorem dL_law_310 : decode cL_law 310 = .ok (.aload_n 2, 1) := by decide +kernel
theorem dL_law_311 : decode cL_law 311 = .ok (.aload_n 0, 1) := by decide +kernel
theorem dL_law_312 : decode cL_law 312 = .ok (.iload_n 3, 1) := by decide +kernel
theorem dL_law_313 : decode cL_law 313 = .ok (.iconst 1, 1) := by decide +kernel
theorem dL_law_314 : decode cL_law 314 = .ok (.iadd, 1) := by decide +kernel
theorem dL_law_315 : decode cL_law 315 = .ok (.iaload, 1) := by decide +kernel
theorem dL_law_316 : decode cL_law 316 = .ok (.aload_n 0, 1) := by decide +kernel
theorem dL_law_317 : decode cL_law 317 = .ok (.iload_n 3, 1) := by decide +kernel
theorem dL_law_318 : decode cL_law 318 = .ok (.iconst 2, 1) := by decide +kernel
theorem dL_law_319 : decode cL_law 319 = .ok (.iadd, 1) := by decide +kernel
theorem dL_law_320 : decode cL_law 320 = .ok (.iaload, 1) := by decide +kernel
theorem dL_law_321 : decode cL_law 321 = .ok (.ifCond .eq 7, 3) := by decide +kernel
theorem dL_law_324 : decode cL_law 324 = .ok (.iconst 1, 1) := by decide +kernel
theorem dL_law_325 : decode cL_law 325 = .ok (.goto 4, 3) := by decide +kernel
theorem dL_law_328 : decode cL_law 328 = .ok (.iconst 0, 1) := by decide +kernel
theorem dL_law_329 : decode cL_law 329 = .ok (.invokevirtual 44, 3) := by decide +kernel
theorem dL_law_332 : decode cL_law 332 = .ok (.if_icmp .eq 504, 3) := by decide +kernel
theorem dL_law_335 : decode cL_law 335 = .ok (.iconst 0, 1) := by decide +kernel
theorem dL_law_336 : decode cL_law 336 = .ok (.ireturn, 1) := by decide +kernel
theorem dL_law_337 : decode cL_law 337 = .ok (.aload_n 1, 1) := by decide +kernel
theorem dL_law_338 : decode cL_law 338 = .ok (.aload_n 0, 1) := by decide +kernel
theorem dL_law_339 : decode cL_law 339 = .ok (.iload_n 3, 1) := by decide +kernel
theorem dL_law_340 : decode cL_law 340 = .ok (.iconst 1, 1) := by decide +kernel
theorem dL_law_341 : decode cL_law 341 = .ok (.iadd, 1) := by decide +kernel
theorem dL_law_342 : decode cL_law 342 = .ok (.iaload, 1) := by decide +kernel
theorem dL_law_343 : decode cL_law 343 = .ok (.invokevirtual 45, 3) := by decide +kernel
theorem dL_law_346 : decode cL_law 346 = .ok (.aload_n 2, 1) := by decide +kernel
theorem dL_law_347 : decode cL_law 347 = .ok (.aload_n 0, 1) := by decide +kernel
theorem dL_law_348 : decode cL_law 348 = .ok (.iload_n 3, 1) := by decide +kernel
theorem dL_law_349 : decode cL_law 349 = .ok (.iconst 1, 1) := by decide +kernel
theorem dL_law_350 : decode cL_law 350 = .ok (.iadd, 1) := by decide +kernel
theorem dL_law_351 : decode cL_law 351 = .ok (.iaload, 1) := by decide +kernel
theorem dL_law_352 : decode cL_law 352 = .ok (.invokevirtual 48, 3) := by decide +kernel
theorem dL_law_355 : decode cL_law 355 = .ok (.if_icmp .eq 481, 3) := by decide +kernel
theorem dL_law_358 : decode cL_law 358 = .ok (.iconst 0, 1) := by decide +kernel
theorem dL_law_359 : decode cL_law 359 = .ok (.ireturn, 1) := by decide +kernel
theorem dL_law_360 : decode cL_law 360 = .ok (.aload_n 1, 1) := by decide +kernel
theorem dL_law_361 : decode cL_law 361 = .ok (.aload_n 0, 1) := by decide +kernel
theorem dL_law_362 : decode cL_law 362 = .ok (.iload_n 3, 1) := by decide +kernel
theorem dL_law_363 : decode cL_law 363 = .ok (.iconst 1, 1) := by decide +kernel
theorem dL_law_364 : decode cL_law 364 = .ok (.iadd, 1) := by decide +kernel
theorem dL_law_365 : decode cL_law 365 = .ok (.iaload, 1) := by decide +kernel
theorem dL_law_366 : decode cL_law 366 = .ok (.invokevirtual 49, 3) := by decide +kernel
theorem dL_law_369 : decode cL_law 369 = .ok (.aload_n 2, 1) := by decide +kernel
theorem dL_law_370 : decode cL_law 370 = .ok (.aload_n 0, 1) := by decide +kernel
theorem dL_law_371 : decode cL_law 371 = .ok (.iload_n 3, 1) := by decide +kernel
theorem dL_law_372 : decode cL_law 372 = .ok (.iconst 1, 1) := by decide +kernel
theorem dL_law_373 : decode cL_law 373 = .ok (.iadd, 1) := by decide +kernel
theorem dL_law_374 : decode cL_law 374 = .ok (.iaload, 1) := by decide +kernel
theorem dL_law_375 : decode cL_law 375 = .ok (.invokevirtual 52, 3) := by decide +kernel
theorem dL_law_378 : decode cL_law 378 = .ok (.if_icmp .eq 458, 3) := by decide +kernel
theorem dL_law_381 : decode cL_law 381 = .ok (.iconst 0, 1) := by decide +kernel
theorem dL_law_382 : decode cL_law 382 = .ok (.ireturn, 1) := by decide +kernel
theorem dL_law_383 : decode cL_law 383 = .ok (.aload_n 1, 1) := by decide +kernel
theorem dL_law_384 : decode cL_law 384 = .ok (.aload_n 0, 1) := by decide +kernel
theorem dL_law_385 : decode cL_law 385 = .ok (.iload_n 3, 1) := by decide +kernel
theorem dL_law_386 : decode cL_law 386 = .ok (.iconst 1, 1) := by decide +kernel
theorem dL_law_387 : decode cL_law 387 = .ok (.iadd, 1) := by decide +kernel
theorem dL_law_388 : decode cL_law 388 = .ok (.iaload, 1) := by decide +kernel
theorem dL_law_389 : decode cL_law 389 = .ok (.invokevirtual 53, 3) := by decide +kernel
theorem dL_law_392 : decode cL_law 392 = .ok (.aload_n 2, 1) := by decide +kernel
theorem dL_law_393 : decode cL_law 393 = .ok (.aload_n 0, 1) := by decide +kernel
theorem dL_law_394 : decode cL_law 394 = .ok (.iload_n 3, 1) := by decide +kernel
theorem dL_law_395 : decode cL_law 395 = .ok (.iconst 1, 1) := by decide +kernel
theorem dL_law_396 : decode cL_law 396 = .ok (.iadd, 1) := by decide +kernel
theorem dL_law_397 : decode cL_law 397 = .ok (.iaload, 1) := by decide +kernel
theorem dL_law_398 : decode cL_law 398 = .ok (.invokevirtual 56, 3) := by decide +kernel
theorem dL_law_401 : decode cL_law 401 = .ok (.if_icmp .eq 435, 3) := by decide +kernel
theorem dL_law_404 : decode cL_law 404 = .ok (.iconst 0, 1) := by decide +kernel
theorem dL_law_405 : decode cL_law 405 = .ok (.ireturn, 1) := by decide +kernel
theorem dL_law_406 : decode cL_law 406 = .ok (.aload_n 1, 1) := by decide +kernel
theorem dL_law_407 : decode cL_law 407 = .ok (.invokevirtual 57, 3) := by decide +kernel
theorem dL_law_410 : decode cL_law 410 = .ok (.aload_n 2, 1) := by decide +kernel
theorem dL_law_411 : decode cL_law 411 = .ok (.invokevirtual 60, 3) := by decide +kernel
theorem dL_law_414 : decode cL_law 414 = .ok (.if_icmp .eq 422, 3) := by decide +kernel
theorem dL_law_417 : decode cL_law 417 = .ok (.iconst 0, 1) := by decide +kernel
theorem dL_law_418 : decode cL_law 418 = .ok (.ireturn, 1) := by decide +kernel
theorem dL_law_419 : decode cL_law 419 = .ok (.aload_n 1, 1) := by decide +kernel
theorem dL_law_420 : decode cL_law 420 = .ok (.aload_n 0, 1) := by decide +kernel
theorem dL_law_421 : decode cL_law 421 = .ok (.iload_n 3, 1) := by decide +kernel
theorem dL_law_422 : decode cL_law 422 = .ok (.iconst 1, 1) := by decide +kernel
theorem dL_law_423 : decode cL_law 423 = .ok (.iadd, 1) := by decide +kernel
theorem dL_law_424 : decode cL_law 424 = .ok (.iaload, 1) := by decide +kernel
theorem dL_law_425 : decode cL_law 425 = .ok (.invokevirtual 61, 3) := by decide +kernel
theorem dL_law_428 : decode cL_law 428 = .ok (.aload_n 2, 1) := by decide +kernel
theorem dL_law_429 : decode cL_law 429 = .ok (.aload_n 0, 1) := by decide +kernel
theorem dL_law_430 : decode cL_law 430 = .ok (.iload_n 3, 1) := by decide +kernel
theorem dL_law_431 : decode cL_law 431 = .ok (.iconst 1, 1) := by decide +kernel
theorem dL_law_432 : decode cL_law 432 = .ok (.iadd, 1) := by decide +kernel
theorem dL_law_433 : decode cL_law 433 = .ok (.iaload, 1) := by decide +kernel
theorem dL_law_434 : decode cL_law 434 = .ok (.invokevirtual 64, 3) := by decide +kernel
theorem dL_law_437 : decode cL_law 437 = .ok (.if_icmp .eq 399, 3) := by decide +kernel
theorem dL_law_440 : decode cL_law 440 = .ok (.iconst 0, 1) := by decide +kernel
theorem dL_law_441 : decode cL_law 441 = .ok (.ireturn, 1) := by decide +kernel
theorem dL_law_442 : decode cL_law 442 = .ok (.aload_n 1, 1) := by decide +kernel
theorem dL_law_443 : decode cL_law 443 = .ok (.aload_n 0, 1) := by decide +kernel
theorem dL_law_444 : decode cL_law 444 = .ok (.iload_n 3, 1) := by decide +kernel
theorem dL_law_445 : decode cL_law 445 = .ok (.iconst 1, 1) := by decide +kernel
theorem dL_law_446 : decode cL_law 446 = .ok (.iadd, 1) := by decide +kernel
theorem dL_law_447 : decode cL_law 447 = .ok (.iaload, 1) := by decide +kernel
theorem dL_law_448 : decode cL_law 448 = .ok (.invokevirtual 65, 3) := by decide +kernel
theorem dL_law_451 : decode cL_law 451 = .ok (.aload_n 2, 1) := by decide +kernel
theorem dL_law_452 : decode cL_law 452 = .ok (.aload_n 0, 1) := by decide +kernel
theorem dL_law_453 : decode cL_law 453 = .ok (.iload_n 3, 1) := by decide +kernel
theorem dL_law_454 : decode cL_law 454 = .ok (.iconst 1, 1) := by decide +kernel
theorem dL_law_455 : decode cL_law 455 = .ok (.iadd, 1) := by decide +kernel
theorem dL_law_456 : decode cL_law 456 = .ok (.iaload, 1) := by decide +kernel
theorem dL_law_457 : decode cL_law 457 = .ok (.invokevirtual 68, 3) := by decide +kernel
theorem dL_law_460 : decode cL_law 460 = .ok (.if_icmp .eq 376, 3) := by decide +kernel
theorem dL_law_463 : decode cL_law 463 = .ok (.iconst 0, 1) := by decide +kernel
theorem dL_law_464 : decode cL_law 464 = .ok (.ireturn, 1) := by decide +kernel
theorem dL_law_465 : decode cL_law 465 = .ok (.aload_n 1, 1) := by decide +kernel
theorem dL_law_466 : decode cL_law 466 = .ok (.invokevirtual 69, 3) := by decide +kernel
theorem dL_law_469 : decode cL_law 469 = .ok (.aload_n 2, 1) := by decide +kernel
theorem dL_law_470 : decode cL_law 470 = .ok (.invokevirtual 72, 3) := by decide +kernel
theorem dL_law_473 : decode cL_law 473 = .ok (.if_icmp .eq 363, 3) := by decide +kernel
theorem dL_law_476 : decode cL_law 476 = .ok (.iconst 0, 1) := by decide +kernel
theorem dL_law_477 : decode cL_law 477 = .ok (.ireturn, 1) := by decide +kernel
theorem dL_law_478 : decode cL_law 478 = .ok (.aload_n 1, 1) := by decide +kernel
theorem dL_law_479 : decode cL_law 479 = .ok (.aload_n 0, 1) := by decide +kernel
theorem dL_law_480 : decode cL_law 480 = .ok (.iload_n 3, 1) := by decide +kernel
theorem dL_law_481 : decode cL_law 481 = .ok (.iconst 1, 1) := by decide +kernel
theorem dL_law_482 : decode cL_law 482 = .ok (.iadd, 1) := by decide +kernel
theorem dL_law_483 : decode cL_law 483 = .ok (.iaload, 1) := by decide +kernel
theorem dL_law_484 : decode cL_law 484 = .ok (.invokevirtual 73, 3) := by decide +kernel
theorem dL_law_487 : decode cL_law 487 = .ok (.aload_n 2, 1) := by decide +kernel
theorem dL_law_488 : decode cL_law 488 = .ok (.aload_n 0, 1) := by decide +kernel
theorem dL_law_489 : decode cL_law 489 = .ok (.iload_n 3, 1) := by decide +kernel
theorem dL_law_490 : decode cL_law 490 = .ok (.iconst 1, 1) := by decide +kernel
theorem dL_law_491 : decode cL_law 491 = .ok (.iadd, 1) := by decide +kernel
theorem dL_law_492 : decode cL_law 492 = .ok (.iaload, 1) := by decide +kernel
theorem dL_law_493 : decode cL_law 493 = .ok (.invokevirtual 76, 3) := by decide +kernel
theorem dL_law_496 : decode cL_law 496 = .ok (.if_icmp .eq 340, 3) := by decide +kernel
theorem dL_law_499 : decode cL_law 499 = .ok (.iconst 0, 1) := by decide +kernel
theorem dL_law_500 : decode cL_law 500 = .ok (.ireturn, 1) := by decide +kernel
theorem dL_law_501 : decode cL_law 501 = .ok (.aload_n 1, 1) := by decide +kernel
theorem dL_law_502 : decode cL_law 502 = .ok (.invokevirtual 77, 3) := by decide +kernel
theorem dL_law_505 : decode cL_law 505 = .ok (.aload_n 2, 1) := by decide +kernel
theorem dL_law_506 : decode cL_law 506 = .ok (.invokevirtual 80, 3) := by decide +kernel
theorem dL_law_509 : decode cL_law 509 = .ok (.if_icmp .eq 327, 3) := by decide +kernel
theorem dL_law_512 : decode cL_law 512 = .ok (.iconst 0, 1) := by decide +kernel
theorem dL_law_513 : decode cL_law 513 = .ok (.ireturn, 1) := by decide +kernel
theorem dL_law_514 : decode cL_law 514 = .ok (.aload_n 1, 1) := by decide +kernel
theorem dL_law_515 : decode cL_law 515 = .ok (.aload_n 0, 1) := by decide +kernel
theorem dL_law_516 : decode cL_law 516 = .ok (.iload_n 3, 1) := by decide +kernel
theorem dL_law_517 : decode cL_law 517 = .ok (.iconst 1, 1) := by decide +kernel
theorem dL_law_518 : decode cL_law 518 = .ok (.iadd, 1) := by decide +kernel
theorem dL_law_519 : decode cL_law 519 = .ok (.iaload, 1) := by decide +kernel
theorem dL_law_520 : decode cL_law 520 = .ok (.invokevirtual 81, 3) := by decide +kernel
theorem dL_law_523 : decode cL_law 523 = .ok (.aload_n 2, 1) := by decide +kernel
theorem dL_law_524 : decode cL_law 524 = .ok (.aload_n 0, 1) := by decide +kernel
theorem dL_law_525 : decode cL_law 525 = .ok (.iload_n 3, 1) := by decide +kernel
theorem dL_law_526 : decode cL_law 526 = .ok (.iconst 1, 1) := by decide +kernel
theorem dL_law_527 : decode cL_law 527 = .ok (.iadd, 1) := by decide +kernel
theorem dL_law_528 : decode cL_law 528 = .ok (.iaload, 1) := by decide +kernel
theorem dL_law_529 : decode cL_law 529 = .ok (.invokevirtual 84, 3) := by decide +kernel
theorem dL_law_532 : decode cL_law 532 = .ok (.if_icmp .eq 304, 3) := by decide +kernel
theorem dL_law_535 : decode cL_law 535 = .ok (.iconst 0, 1) := by decide +kernel
theorem dL_law_536 : decode cL_law 536 = .ok (.ireturn, 1) := by decide +kernel
theorem dL_law_537 : decode cL_law 537 = .ok (.aload_n 1, 1) := by decide +kernel
theorem dL_law_538 : decode cL_law 538 = .ok (.aload_n 0, 1) := by decide +kernel
theorem dL_law_539 : decode cL_law 539 = .ok (.iload_n 3, 1) := by decide +kernel
theorem dL_law_540 : decode cL_law 540 = .ok (.iconst 1, 1) := by decide +kernel
theorem dL_law_541 : decode cL_law 541 = .ok (.iadd, 1) := by decide +kernel
theorem dL_law_542 : decode cL_law 542 = .ok (.iaload, 1) := by decide +kernel
theorem dL_law_543 : decode cL_law 543 = .ok (.invokevirtual 85, 3) := by decide +kernel
theorem dL_law_546 : decode cL_law 546 = .ok (.aload_n 2, 1) := by decide +kernel
theorem dL_law_547 : decode cL_law 547 = .ok (.aload_n 0, 1) := by decide +kernel
theorem dL_law_548 : decode cL_law 548 = .ok (.iload_n 3, 1) := by decide +kernel
theorem dL_law_549 : decode cL_law 549 = .ok (.iconst 1, 1) := by decide +kernel
theorem dL_law_550 : decode cL_law 550 = .ok (.iadd, 1) := by decide +kernel
theorem dL_law_551 : decode cL_law 551 = .ok (.iaload, 1) := by decide +kernel
theorem dL_law_552 : decode cL_law 552 = .ok (.invokevirtual 88, 3) := by decide +kernel
theorem dL_law_555 : decode cL_law 555 = .ok (.if_icmp .eq 281, 3) := by decide +kernel
theorem dL_law_558 : decode cL_law 558 = .ok (.iconst 0, 1) := by decide +kernel
theorem dL_law_559 : decode cL_law 559 = .ok (.ireturn, 1) := by decide +kernel
theorem dL_law_560 : decode cL_law 560 = .ok (.aload_n 1, 1) := by decide +kernel
theorem dL_law_561 : decode cL_law 561 = .ok (.aload_n 0, 1) := by decide +kernel
theorem dL_law_562 : decode cL_law 562 = .ok (.iload_n 3, 1) := by decide +kernel
theorem dL_law_563 : decode cL_law 563 = .ok (.iconst 1, 1) := by decide +kernel
theorem dL_law_564 : decode cL_law 564 = .ok (.iadd, 1) := by decide +kernel
theorem dL_law_565 : decode cL_law 565 = .ok (.iaload, 1) := by decide +kernel
theorem dL_law_566 : decode cL_law 566 = .ok (.aload_n 0, 1) := by decide +kernel
theorem dL_law_567 : decode cL_law 567 = .ok (.iload_n 3, 1) := by decide +kernel
theorem dL_law_568 : decode cL_law 568 = .ok (.iconst 2, 1) := by decide +kernel
theorem dL_law_569 : decode cL_law 569 = .ok (.iadd, 1) := by decide +kernel
theorem dL_law_570 : decode cL_law 570 = .ok (.iaload, 1) := by decide +kernel
theorem dL_law_571 : decode cL_law 571 = .ok (.aload_n 0, 1) := by decide +kernel
theorem dL_law_572 : decode cL_law 572 = .ok (.iload_n 3, 1) := by decide +kernel
theorem dL_law_573 : decode cL_law 573 = .ok (.iconst 3, 1) := by decide +kernel
theorem dL_law_574 : decode cL_law 574 = .ok (.iadd, 1) := by decide +kernel
theorem dL_law_575 : decode cL_law 575 = .ok (.iaload, 1) := by decide +kernel
theorem dL_law_576 : decode cL_law 576 = .ok (.invokevirtual 89, 3) := by decide +kernel
theorem dL_law_579 : decode cL_law 579 = .ok (.aload_n 2, 1) := by decide +kernel
theorem dL_law_580 : decode cL_law 580 = .ok (.aload_n 0, 1) := by decide +kernel
theorem dL_law_581 : decode cL_law 581 = .ok (.iload_n 3, 1) := by decide +kernel
theorem dL_law_582 : decode cL_law 582 = .ok (.iconst 1, 1) := by decide +kernel
theorem dL_law_583 : decode cL_law 583 = .ok (.iadd, 1) := by decide +kernel
theorem dL_law_584 : decode cL_law 584 = .ok (.iaload, 1) := by decide +kernel
theorem dL_law_585 : decode cL_law 585 = .ok (.aload_n 0, 1) := by decide +kernel
theorem dL_law_586 : decode cL_law 586 = .ok (.iload_n 3, 1) := by decide +kernel
theorem dL_law_587 : decode cL_law 587 = .ok (.iconst 2, 1) := by decide +kernel
theorem dL_law_588 : decode cL_law 588 = .ok (.iadd, 1) := by decide +kernel
theorem dL_law_589 : decode cL_law 589 = .ok (.iaload, 1) := by decide +kernel
theorem dL_law_590 : decode cL_law 590 = .ok (.aload_n 0, 1) := by decide +kernel
theorem dL_law_591 : decode cL_law 591 = .ok (.iload_n 3, 1) := by decide +kernel
theorem dL_law_592 : decode cL_law 592 = .ok (.iconst 3, 1) := by decide +kernel
theorem dL_law_593 : decode cL_law 593 = .ok (.iadd, 1) := by decide +kernel
theorem dL_law_594 : decode cL_law 594 = .ok (.iaload, 1) := by decide +kernel
theorem dL_law_595 : decode cL_law 595 = .ok (.invokevirtual 93, 3) := by decide +kernel
theorem dL_law_598 : decode cL_law 598 = .ok (.if_icmp .eq 238, 3) := by decide +kernel
theorem dL_law_601 : decode cL_law 601 = .ok (.iconst 0, 1) := by decide +kernel
theorem dL_law_602 : decode cL_law 602 = .ok (.ireturn, 1) := by decide +kernel
theorem dL_law_603 : decode cL_law 603 = .ok (.aload_n 1, 1) := by decide +kernel
theorem dL_law_604 : decode cL_law 604 = .ok (.aload_n 0, 1) := by decide +kernel
theorem dL_law_605 : decode cL_law 605 = .ok (.iload_n 3, 1) := by decide +kernel
theorem dL_law_606 : decode cL_law 606 = .ok (.iconst 1, 1) := by decide +kernel
theorem dL_law_607 : decode cL_law 607 = .ok (.iadd, 1) := by decide +kernel
theorem dL_law_608 : decode cL_law 608 = .ok (.iaload, 1) := by decide +kernel
theorem dL_law_609 : decode cL_law 609 = .ok (.aload_n 0, 1) := by decide +kernel
theorem dL_law_610 : decode cL_law 610 = .ok (.iload_n 3, 1) := by decide +kernel
theorem dL_law_611 : decode cL_law 611 = .ok (.iconst 2, 1) := by decide +kernel
theorem dL_law_612 : decode cL_law 612 = .ok (.iadd, 1) := by decide +kernel
theorem dL_law_613 : decode cL_law 613 = .ok (.iaload, 1) := by decide +kernel
theorem dL_law_614 : decode cL_law 614 = .ok (.ifCond .eq 7, 3) := by decide +kernel
theorem dL_law_617 : decode cL_law 617 = .ok (.iconst 1, 1) := by decide +kernel
theorem dL_law_618 : decode cL_law 618 = .ok (.goto 4, 3) := by decide +kernel
theorem dL_law_621 : decode cL_law 621 = .ok (.iconst 0, 1) := by decide +kernel
theorem dL_law_622 : decode cL_law 622 = .ok (.invokevirtual 94, 3) := by decide +kernel
theorem dL_law_625 : decode cL_law 625 = .ok (.aload_n 2, 1) := by decide +kernel
theorem dL_law_626 : decode cL_law 626 = .ok (.aload_n 0, 1) := by decide +kernel
theorem dL_law_627 : decode cL_law 627 = .ok (.iload_n 3, 1) := by decide +kernel
theorem dL_law_628 : decode cL_law 628 = .ok (.iconst 1, 1) := by decide +kernel
theorem dL_law_629 : decode cL_law 629 = .ok (.iadd, 1) := by decide +kernel
theorem dL_law_630 : decode cL_law 630 = .ok (.iaload, 1) := by decide +kernel
theorem dL_law_631 : decode cL_law 631 = .ok (.aload_n 0, 1) := by decide +kernel
theorem dL_law_632 : decode cL_law 632 = .ok (.iload_n 3, 1) := by decide +kernel
theorem dL_law_633 : decode cL_law 633 = .ok (.iconst 2, 1) := by decide +kernel
theorem dL_law_634 : decode cL_law 634 = .ok (.iadd, 1) := by decide +kernel
theorem dL_law_635 : decode cL_law 635 = .ok (.iaload, 1) := by decide +kernel
theorem dL_law_636 : decode cL_law 636 = .ok (.ifCond .eq 7, 3) := by decide +kernel
theorem dL_law_639 : decode cL_law 639 = .ok (.iconst 1, 1) := by decide +kernel
theorem dL_law_640 : decode cL_law 640 = .ok (.goto 4, 3) := by decide +kernel
theorem dL_law_643 : decode cL_law 643 = .ok (.iconst 0, 1) := by decide +kernel
theorem dL_law_644 : decode cL_law 644 = .ok (.invokevirtual 97, 3) := by decide +kernel
theorem dL_law_647 : decode cL_law 647 = .ok (.if_icmp .eq 189, 3) := by decide +kernel
theorem dL_law_650 : decode cL_law 650 = .ok (.iconst 0, 1) := by decide +kernel
theorem dL_law_651 : decode cL_law 651 = .ok (.ireturn, 1) := by decide +kernel
theorem dL_law_652 : decode cL_law 652 = .ok (.aload_n 1, 1) := by decide +kernel
theorem dL_law_653 : decode cL_law 653 = .ok (.aload_n 0, 1) := by decide +kernel
theorem dL_law_654 : decode cL_law 654 = .ok (.iload_n 3, 1) := by decide +kernel
theorem dL_law_655 : decode cL_law 655 = .ok (.iconst 1, 1) := by decide +kernel
theorem dL_law_656 : decode cL_law 656 = .ok (.iadd, 1) := by decide +kernel
theorem dL_law_657 : decode cL_law 657 = .ok (.iaload, 1) := by decide +kernel
theorem dL_law_658 : decode cL_law 658 = .ok (.aload_n 0, 1) := by decide +kernel
theorem dL_law_659 : decode cL_law 659 = .ok (.iload_n 3, 1) := by decide +kernel
theorem dL_law_660 : decode cL_law 660 = .ok (.iconst 2, 1) := by decide +kernel
theorem dL_law_661 : decode cL_law 661 = .ok (.iadd, 1) := by decide +kernel
theorem dL_law_662 : decode cL_law 662 = .ok (.iaload, 1) := by decide +kernel
theorem dL_law_663 : decode cL_law 663 = .ok (.invokevirtual 98, 3) := by decide +kernel
theorem dL_law_666 : decode cL_law 666 = .ok (.aload_n 2, 1) := by decide +kernel
theorem dL_law_667 : decode cL_law 667 = .ok (.aload_n 0, 1) := by decide +kernel
theorem dL_law_668 : decode cL_law 668 = .ok (.iload_n 3, 1) := by decide +kernel
theorem dL_law_669 : decode cL_law 669 = .ok (.iconst 1, 1) := by decide +kernel
theorem dL_law_670 : decode cL_law 670 = .ok (.iadd, 1) := by decide +kernel
theorem dL_law_671 : decode cL_law 671 = .ok (.iaload, 1) := by decide +kernel
theorem dL_law_672 : decode cL_law 672 = .ok (.aload_n 0, 1) := by decide +kernel
theorem dL_law_673 : decode cL_law 673 = .ok (.iload_n 3, 1) := by decide +kernel
theorem dL_law_674 : decode cL_law 674 = .ok (.iconst 2, 1) := by decide +kernel
theorem dL_law_675 : decode cL_law 675 = .ok (.iadd, 1) := by decide +kernel
theorem dL_law_676 : decode cL_law 676 = .ok (.iaload, 1) := by decide +kernel
theorem dL_law_677 : decode cL_law 677 = .ok (.invokevirtual 101, 3) := by decide +kernel
theorem dL_law_680 : decode cL_law 680 = .ok (.if_icmp .eq 156, 3) := by decide +kernel
theorem dL_law_683 : decode cL_law 683 = .ok (.iconst 0, 1) := by decide +kernel
theorem dL_law_684 : decode cL_law 684 = .ok (.ireturn, 1) := by decide +kernel
theorem dL_law_685 : decode cL_law 685 = .ok (.aload_n 1, 1) := by decide +kernel
theorem dL_law_686 : decode cL_law 686 = .ok (.aload_n 0, 1) := by decide +kernel
theorem dL_law_687 : decode cL_law 687 = .ok (.iload_n 3, 1) := by decide +kernel
theorem dL_law_688 : decode cL_law 688 = .ok (.iconst 1, 1) := by decide +kernel
theorem dL_law_689 : decode cL_law 689 = .ok (.iadd, 1) := by decide +kernel
theorem dL_law_690 : decode cL_law 690 = .ok (.iaload, 1) := by decide +kernel
theorem dL_law_691 : decode cL_law 691 = .ok (.invokevirtual 102, 3) := by decide +kernel
theorem dL_law_694 : decode cL_law 694 = .ok (.aload_n 2, 1) := by decide +kernel
theorem dL_law_695 : decode cL_law 695 = .ok (.aload_n 0, 1) := by decide +kernel
theorem dL_law_696 : decode cL_law 696 = .ok (.iload_n 3, 1) := by decide +kernel
theorem dL_law_697 : decode cL_law 697 = .ok (.iconst 1, 1) := by decide +kernel
theorem dL_law_698 : decode cL_law 698 = .ok (.iadd, 1) := by decide +kernel
theorem dL_law_699 : decode cL_law 699 = .ok (.iaload, 1) := by decide +kernel
theorem dL_law_700 : decode cL_law 700 = .ok (.invokevirtual 105, 3) := by decide +kernel
theorem dL_law_703 : decode cL_law 703 = .ok (.if_icmp .eq 133, 3) := by decide +kernel
theorem dL_law_706 : decode cL_law 706 = .ok (.iconst 0, 1) := by decide +kernel
theorem dL_law_707 : decode cL_law 707 = .ok (.ireturn, 1) := by decide +kernel
theorem dL_law_708 : decode cL_law 708 = .ok (.aload_n 1, 1) := by decide +kernel
theorem dL_law_709 : decode cL_law 709 = .ok (.aload_n 0, 1) := by decide +kernel
theorem dL_law_710 : decode cL_law 710 = .ok (.iload_n 3, 1) := by decide +kernel
theorem dL_law_711 : decode cL_law 711 = .ok (.iconst 1, 1) := by decide +kernel
theorem dL_law_712 : decode cL_law 712 = .ok (.iadd, 1) := by decide +kernel
theorem dL_law_713 : decode cL_law 713 = .ok (.iaload, 1) := by decide +kernel
theorem dL_law_714 : decode cL_law 714 = .ok (.aload_n 0, 1) := by decide +kernel
theorem dL_law_715 : decode cL_law 715 = .ok (.iload_n 3, 1) := by decide +kernel
theorem dL_law_716 : decode cL_law 716 = .ok (.iconst 2, 1) := by decide +kernel
theorem dL_law_717 : decode cL_law 717 = .ok (.iadd, 1) := by decide +kernel
theorem dL_law_718 : decode cL_law 718 = .ok (.iaload, 1) := by decide +kernel
theorem dL_law_719 : decode cL_law 719 = .ok (.invokevirtual 106, 3) := by decide +kernel
theorem dL_law_722 : decode cL_law 722 = .ok (.aload_n 2, 1) := by decide +kernel
theorem dL_law_723 : decode cL_law 723 = .ok (.aload_n 0, 1) := by decide +kernel
theorem dL_law_724 : decode cL_law 724 = .ok (.iload_n 3, 1) := by decide +kernel
theorem dL_law_725 : decode cL_law 725 = .ok (.iconst 1, 1) := by decide +kernel
theorem dL_law_726 : decode cL_law 726 = .ok (.iadd, 1) := by decide +kernel
theorem dL_law_727 : decode cL_law 727 = .ok (.iaload, 1) := by decide +kernel
theorem dL_law_728 : decode cL_law 728 = .ok (.aload_n 0, 1) := by decide +kernel
theorem dL_law_729 : decode cL_law 729 = .ok (.iload_n 3, 1) := by decide +kernel
theorem dL_law_730 : decode cL_law 730 = .ok (.iconst 2, 1) := by decide +kernel
theorem dL_law_731 : decode cL_law 731 = .ok (.iadd, 1) := by decide +kernel
theorem dL_law_732 : decode cL_law 732 = .ok (.iaload, 1) := by decide +kernel
theorem dL_law_733 : decode cL_law 733 = .ok (.invokevirtual 109, 3) := by decide +kernel
theorem dL_law_736 : decode cL_law 736 = .ok (.if_icmp .eq 100, 3) := by decide +kernel
theorem dL_law_739 : decode cL_law 739 = .ok (.iconst 0, 1) := by decide +kernel
theorem dL_law_740 : decode cL_law 740 = .ok (.ireturn, 1) := by decide +kernel
theorem dL_law_741 : decode cL_law 741 = .ok (.aload_n 1, 1) := by decide +kernel
theorem dL_law_742 : decode cL_law 742 = .ok (.invokevirtual 110, 3) := by decide +kernel
theorem dL_law_745 : decode cL_law 745 = .ok (.aload_n 2, 1) := by decide +kernel
theorem dL_law_746 : decode cL_law 746 = .ok (.invokevirtual 113, 3) := by decide +kernel
theorem dL_law_749 : decode cL_law 749 = .ok (.if_icmp .eq 87, 3) := by decide +kernel
theorem dL_law_752 : decode cL_law 752 = .ok (.iconst 0, 1) := by decide +kernel
theorem dL_law_753 : decode cL_law 753 = .ok (.ireturn, 1) := by decide +kernel
theorem dL_law_754 : decode cL_law 754 = .ok (.aload_n 1, 1) := by decide +kernel
theorem dL_law_755 : decode cL_law 755 = .ok (.invokevirtual 114, 3) := by decide +kernel
theorem dL_law_758 : decode cL_law 758 = .ok (.aload_n 2, 1) := by decide +kernel
theorem dL_law_759 : decode cL_law 759 = .ok (.invokevirtual 117, 3) := by decide +kernel
theorem dL_law_762 : decode cL_law 762 = .ok (.if_icmp .eq 74, 3) := by decide +kernel
theorem dL_law_765 : decode cL_law 765 = .ok (.iconst 0, 1) := by decide +kernel
theorem dL_law_766 : decode cL_law 766 = .ok (.ireturn, 1) := by decide +kernel
theorem dL_law_767 : decode cL_law 767 = .ok (.aload_n 1, 1) := by decide +kernel
theorem dL_law_768 : decode cL_law 768 = .ok (.aload_n 0, 1) := by decide +kernel
theorem dL_law_769 : decode cL_law 769 = .ok (.iload_n 3, 1) := by decide +kernel
theorem dL_law_770 : decode cL_law 770 = .ok (.iconst 1, 1) := by decide +kernel
theorem dL_law_771 : decode cL_law 771 = .ok (.iadd, 1) := by decide +kernel
theorem dL_law_772 : decode cL_law 772 = .ok (.iaload, 1) := by decide +kernel
theorem dL_law_773 : decode cL_law 773 = .ok (.invokevirtual 118, 3) := by decide +kernel
theorem dL_law_776 : decode cL_law 776 = .ok (.aload_n 2, 1) := by decide +kernel
theorem dL_law_777 : decode cL_law 777 = .ok (.aload_n 0, 1) := by decide +kernel
theorem dL_law_778 : decode cL_law 778 = .ok (.iload_n 3, 1) := by decide +kernel
theorem dL_law_779 : decode cL_law 779 = .ok (.iconst 1, 1) := by decide +kernel
theorem dL_law_780 : decode cL_law 780 = .ok (.iadd, 1) := by decide +kernel
theorem dL_law_781 : decode cL_law 781 = .ok (.iaload, 1) := by decide +kernel
theorem dL_law_782 : decode cL_law 782 = .ok (.invokevirtual 121, 3) := by decide +kernel
theorem dL_law_785 : decode cL_law 785 = .ok (.if_icmp .eq 51, 3) := by decide +kernel
theorem dL_law_788 : decode cL_law 788 = .ok (.iconst 0, 1) := by decide +kernel
theorem dL_law_789 : decode cL_law 789 = .ok (.ireturn, 1) := by decide +kernel
theorem dL_law_790 : decode cL_law 790 = .ok (.aload_n 1, 1) := by decide +kernel
theorem dL_law_791 : decode cL_law 791 = .ok (.aload_n 0, 1) := by decide +kernel
theorem dL_law_792 : decode cL_law 792 = .ok (.iload_n 3, 1) := by decide +kernel
theorem dL_law_793 : decode cL_law 793 = .ok (.iconst 1, 1) := by decide +kernel
theorem dL_law_794 : decode cL_law 794 = .ok (.iadd, 1) := by decide +kernel
theorem dL_law_795 : decode cL_law 795 = .ok (.iaload, 1) := by decide +kernel
theorem dL_law_796 : decode cL_law 796 = .ok (.invokevirtual 122, 3) := by decide +kernel
theorem dL_law_799 : decode cL_law 799 = .ok (.aload_n 2, 1) := by decide +kernel
theorem dL_law_800 : decode cL_law 800 = .ok (.aload_n 0, 1) := by decide +kernel
theorem dL_law_801 : decode cL_law 801 = .ok (.iload_n 3, 1) := by decide +kernel
theorem dL_law_802 : decode cL_law 802 = .ok (.iconst 1, 1) := by decide +kernel
theorem dL_law_803 : decode cL_law 803 = .ok (.iadd, 1) := by decide +kernel
theorem dL_law_804 : decode cL_law 804 = .ok (.iaload, 1) := by decide +kernel
theorem dL_law_805 : decode cL_law 805 = .ok (.invokevirtual 125, 3) := by decide +kernel
theorem dL_law_808 : decode cL_law 808 = .ok (.if_icmp .eq 28, 3) := by decide +kernel
theorem dL_law_811 : decode cL_law 811 = .ok (.iconst 0, 1) := by decide +kernel
theorem dL_law_812 : decode cL_law 812 = .ok (.ireturn, 1) := by decide +kernel
theorem dL_law_813 : decode cL_law 813 = .ok (.aload_n 1, 1) := by decide +kernel
theorem dL_law_814 : decode cL_law 814 = .ok (.aload_n 0, 1) := by decide +kernel
theorem dL_law_815 : decode cL_law 815 = .ok (.iload_n 3, 1) := by decide +kernel
theorem dL_law_816 : decode cL_law 816 = .ok (.iconst 1, 1) := by decide +kernel
theorem dL_law_817 : decode cL_law 817 = .ok (.iadd, 1) := by decide +kernel
theorem dL_law_818 : decode cL_law 818 = .ok (.iaload, 1) := by decide +kernel
theorem dL_law_819 : decode cL_law 819 = .ok (.invokevirtual 126, 3) := by decide +kernel
theorem dL_law_822 : decode cL_law 822 = .ok (.aload_n 2, 1) := by decide +kernel
theorem dL_law_823 : decode cL_law 823 = .ok (.aload_n 0, 1) := by decide +kernel
theorem dL_law_824 : decode cL_law 824 = .ok (.iload_n 3, 1) := by decide +kernel
theorem dL_law_825 : decode cL_law 825 = .ok (.iconst 1, 1) := by decide +kernel
theorem dL_law_826 : decode cL_law 826 = .ok (.iadd, 1) := by decide +kernel
theorem dL_law_827 : decode cL_law 827 = .ok (.iaload, 1) := by decide +kernel
theorem dL_law_828 : decode cL_law 828 = .ok (.invokevirtual 129, 3) := by decide +kernel
theorem dL_law_831 : decode cL_law 831 = .ok (.if_icmp .eq 5, 3) := by decide +kernel
theorem dL_law_834 : decode cL_law 834 = .ok (.iconst 0, 1) := by decide +kernel
theorem dL_law_835 : decode cL_law 835 = .ok (.ireturn, 1) := by decide +kernel
theorem dL_law_836 : decode cL_law 836 = .ok (.iinc 3 4, 3) := by decide +kernel
theorem dL_law_839 : decode cL_law 839 = .ok (.goto (-821), 3) := by decide +kernel
theorem dL_law_842 : decode cL_law 842 = .ok (.iconst 1, 1) := by decide +kernel
theorem dL_law_843 : decode cL_law 843 = .ok (.ireturn, 1) := by decide +kernel
end
section
/-! tables of the abstract machine: printed by wip/whole/gentab.py out of the Statement and the names -/
def cnl : List String := [RX0, RX1, RX2, RX3, RX4, RX5, RX6, RX7, RX8, RX9, RX10, RL, RJ6]
def cn (o : Nat) : String := cnl.getD o RL
abbrev classes : List vw_C := [(RX0, TX0, 3), (RX1, TX1, 3), (RX2, TX2, 11), (RX3, TX3, 1), (RX4, TX4, 3), (RX5, TX5, 6), (RX6, TX6, 3), (RX7, TX7, 9), (RX8, TX8, 5), (RX9, TX9, 9), (RX10, TX10, 40)]
abbrev aS : Type := (Nat × List (Option Nat)) ⊕ (Nat × Nat × List Nat)
def shl : List aS := [.inl (9, [some 1, some 9, some 15, some 18, some 80, some 90, some 91, some 103, some 106]),
  .inl (5, [some 2, none, none, some 8, none, none]),
  .inl (2, [none, none, none, none, none, none, some 3, some 4, some 5, some 6, some 7]),
  .inr (0, 6, []),
  .inr (0, 6, []),
  .inr (0, 6, []),
  .inr (0, 6, []),
  .inr (0, 8, []),
  .inr (0, 220, []),
  .inl (2, [none, none, none, none, none, none, some 10, some 11, some 12, some 13, some 14]),
  .inr (0, 6, []),
  .inr (0, 6, []),
  .inr (0, 6, []),
  .inr (0, 6, []),
  .inr (0, 8, []),
  .inl (7, [none, none, none, none, none, none, none, some 16, some 17]),
  .inr (0, 6, []),
  .inr (0, 6, []),
  .inl (4, [none, none, some 19]),
  .inr (2, 20, [20, 23, 26, 29, 32, 35, 38, 41, 44, 47, 50, 53, 56, 59, 62, 65, 68, 71, 74, 77]),
  .inl (7, [none, none, none, none, none, none, none, some 21, some 22]),
  .inr (0, 6, []),
  .inr (0, 6, []),
  .inl (7, [none, none, none, none, none, none, none, some 24, some 25]),
  .inr (0, 6, []),
  .inr (0, 6, []),
  .inl (7, [none, none, none, none, none, none, none, some 27, some 28]),
  .inr (0, 6, []),
  .inr (0, 6, []),
  .inl (7, [none, none, none, none, none, none, none, some 30, some 31]),
  .inr (0, 6, []),
  .inr (0, 6, []),
  .inl (7, [none, none, none, none, none, none, none, some 33, some 34]),
  .inr (0, 6, []),
  .inr (0, 6, []),
  .inl (7, [none, none, none, none, none, none, none, some 36, some 37]),
  .inr (0, 6, []),
  .inr (0, 6, []),
  .inl (7, [none, none, none, none, none, none, none, some 39, some 40]),
  .inr (0, 6, []),
  .inr (0, 6, []),
  .inl (7, [none, none, none, none, none, none, none, some 42, some 43]),
  .inr (0, 6, []),
  .inr (0, 6, []),
  .inl (7, [none, none, none, none, none, none, none, some 45, some 46]),
  .inr (0, 6, []),
  .inr (0, 6, []),
  .inl (7, [none, none, none, none, none, none, none, some 48, some 49]),
  .inr (0, 6, []),
  .inr (0, 6, []),
  .inl (7, [none, none, none, none, none, none, none, some 51, some 52]),
  .inr (0, 6, []),
  .inr (0, 6, []),
  .inl (7, [none, none, none, none, none, none, none, some 54, some 55]),
  .inr (0, 6, []),
  .inr (0, 6, []),
  .inl (7, [none, none, none, none, none, none, none, some 57, some 58]),
  .inr (0, 6, []),
  .inr (0, 6, []),
  .inl (7, [none, none, none, none, none, none, none, some 60, some 61]),
  .inr (0, 6, []),
  .inr (0, 6, []),
  .inl (7, [none, none, none, none, none, none, none, some 63, some 64]),
  .inr (0, 6, []),
  .inr (0, 6, []),
  .inl (7, [none, none, none, none, none, none, none, some 66, some 67]),
  .inr (0, 6, []),
  .inr (0, 6, []),
  .inl (7, [none, none, none, none, none, none, none, some 69, some 70]),
  .inr (0, 6, []),
  .inr (0, 6, []),
  .inl (7, [none, none, none, none, none, none, none, some 72, some 73]),
  .inr (0, 6, []),
  .inr (0, 6, []),
  .inl (7, [none, none, none, none, none, none, none, some 75, some 76]),
  .inr (0, 6, []),
  .inr (0, 6, []),
  .inl (7, [none, none, none, none, none, none, none, some 78, some 79]),
  .inr (0, 6, []),
  .inr (0, 6, []),
  .inl (0, [some 81, some 82, some 83]),
  .inr (2, 2, [84, 87]),
  .inr (0, 2, []),
  .inr (1, 2, []),
  .inl (7, [none, none, none, none, none, none, none, some 85, some 86]),
  .inr (0, 6, []),
  .inr (0, 6, []),
  .inl (7, [none, none, none, none, none, none, none, some 88, some 89]),
  .inr (0, 6, []),
  .inr (0, 6, []),
  .inl (3, [none]),
  .inl (8, [some 92, none, some 93, some 101, some 102]),
  .inr (0, 6, []),
  .inr (3, 7, [94, 95, 96, 97, 98, 99, 100]),
  .inr (0, 6, []),
  .inr (0, 6, []),
  .inr (0, 6, []),
  .inr (0, 6, []),
  .inr (0, 6, []),
  .inr (0, 6, []),
  .inr (0, 6, []),
  .inr (0, 6, []),
  .inr (0, 6, []),
  .inl (6, [none, some 104, some 105]),
  .inr (0, 8, []),
  .inr (1, 8, []),
  .inl (1, [none, some 107, some 108]),
  .inr (0, 15, []),
  .inr (0, 15, []),
  .inl (10, [none, none, none, none, none, some 110, some 111, some 112, none, some 113, some 114, none, some 115, none, none, none, none, none, some 116, none, some 117, some 118, some 119, some 120, none, some 121, none, some 122, some 123, some 124, some 125, none, none, some 126, some 127, none, some 128, some 129, some 130, some 131]),
  .inr (0, 6, []),
  .inr (0, 6, []),
  .inr (0, 6, []),
  .inr (0, 8, []),
  .inr (0, 19, []),
  .inr (0, 220, []),
  .inr (0, 4, []),
  .inr (0, 6, []),
  .inr (0, 6, []),
  .inr (0, 6, []),
  .inr (0, 6, []),
  .inr (0, 8, []),
  .inr (0, 380, []),
  .inr (0, 6, []),
  .inr (0, 6, []),
  .inr (0, 6, []),
  .inr (0, 8, []),
  .inr (1, 8, []),
  .inr (0, 15, []),
  .inr (0, 15, []),
  .inr (0, 40, []),
  .inr (1, 2, [])]
abbrev NP : Nat := 132
set_option maxRecDepth 100000 in
theorem shl_len : shl.length = NP := rfl
def flt : List (Nat × Nat × Nat × Nat) := [(2, 27, 2, 0), (8, 58, 2, 0), (9, 108, 2, 0), (5, 79, 2, 0), (7, 79, 2, 0), (2, 31, 2, 1), (7, 60, 2, 1), (9, 111, 2, 1), (5, 82, 2, 1), (2, 34, 2, 2), (7, 66, 2, 2), (9, 114, 2, 2), (5, 85, 2, 2), (2, 37, 2, 3), (9, 117, 2, 3), (5, 88, 2, 3), (2, 40, 2, 4), (9, 102, 2, 4), (8, 49, 2, 4), (5, 69, 2, 4), (2, 43, 2, 5), (5, 72, 2, 5), (9, 120, 2, 5), (6, 43, 2, 5), (2, 9, 2, 6), (7, 40, 2, 6), (2, 15, 2, 7), (9, 155, 2, 7), (8, 99, 2, 7), (2, 18, 2, 8), (8, 69, 2, 8), (9, 158, 2, 8), (2, 21, 2, 9), (9, 161, 2, 9), (8, 105, 2, 9), (2, 24, 2, 10), (9, 170, 2, 10), (5, 12, 5, 0), (9, 86, 5, 0), (5, 26, 5, 1), (9, 78, 5, 1), (5, 18, 5, 2), (9, 105, 5, 2), (5, 22, 5, 3), (5, 32, 5, 4), (5, 35, 5, 5), (7, 18, 7, 0), (9, 123, 7, 0), (7, 22, 7, 1), (9, 126, 7, 1), (7, 25, 7, 2), (9, 127, 7, 2), (7, 28, 7, 3), (9, 130, 7, 3), (7, 31, 7, 4), (9, 133, 7, 4), (7, 34, 7, 5), (9, 136, 7, 5), (7, 37, 7, 6), (9, 139, 7, 6), (7, 9, 7, 7), (8, 26, 7, 7), (1, 22, 7, 7), (9, 151, 7, 7), (7, 15, 7, 8), (9, 164, 7, 8), (4, 18, 4, 0), (9, 146, 4, 0), (4, 22, 4, 1), (4, 11, 4, 2), (0, 11, 0, 0), (0, 17, 0, 1), (0, 21, 0, 2), (3, 7, 3, 0), (0, 34, 3, 0), (9, 271, 3, 0), (8, 9, 8, 0), (9, 214, 8, 0), (8, 41, 8, 1), (9, 211, 8, 1), (8, 17, 8, 2), (8, 20, 8, 3), (8, 23, 8, 4), (6, 19, 6, 0), (9, 142, 6, 0), (6, 9, 6, 1), (6, 15, 6, 2), (1, 18, 1, 0), (9, 145, 1, 0), (1, 9, 1, 1), (1, 15, 1, 2), (9, 10, 9, 0), (9, 19, 9, 1), (9, 26, 9, 2), (9, 33, 9, 3), (9, 40, 9, 4), (9, 47, 9, 5), (9, 54, 9, 6), (9, 61, 9, 7), (9, 68, 9, 8), (10, 81, 10, 0), (10, 144, 10, 1), (10, 147, 10, 2), (10, 150, 10, 3), (10, 84, 10, 4), (10, 7, 10, 5), (10, 13, 10, 6), (10, 16, 10, 7), (10, 91, 10, 8), (10, 19, 10, 9), (10, 22, 10, 10), (10, 219, 10, 11), (10, 25, 10, 12), (10, 97, 10, 13), (10, 28, 10, 14), (10, 101, 10, 15), (10, 119, 10, 16), (10, 116, 10, 17), (10, 32, 10, 18), (10, 129, 10, 19), (10, 35, 10, 20), (10, 38, 10, 21), (10, 41, 10, 22), (10, 44, 10, 23), (10, 132, 10, 24), (10, 47, 10, 25), (10, 165, 10, 26), (10, 50, 10, 27), (10, 53, 10, 28), (10, 56, 10, 29), (10, 59, 10, 30), (10, 238, 10, 31), (10, 159, 10, 32), (10, 62, 10, 33), (10, 65, 10, 34), (10, 162, 10, 35), (10, 69, 10, 36), (10, 72, 10, 37), (10, 75, 10, 38), (10, 78, 10, 39)]
def klt : List (Nat × Nat × Int32) := [(9, 72, -1000000002), (9, 77, -1000000004), (9, 150, -1000000001), (9, 180, -1000000003), (9, 181, 90000), (7, 59, 999999), (12, 265, 1431655765), (12, 266, 858993459), (12, 267, 252645135), (3, 19, 65536), (10, 96, -1000000002), (10, 100, -1000000004), (10, 172, -1000000001), (10, 205, -1000000003), (10, 206, 90000), (10, 194, 999999), (10, 228, 65536), (10, 251, 1000000)]
def kLt : List (Nat × Nat × Int64) := [(3, 13, 1103515245), (3, 15, 12345), (3, 17, 2147483647), (9, 243, 1000000000), (9, 245, 100), (10, 94, 255), (10, 108, 48), (10, 110, 57), (10, 214, 60), (10, 222, 1103515245), (10, 224, 12345), (10, 226, 2147483648), (10, 261, 1000), (10, 263, 100), (10, 265, 1000000000), (10, 273, 199)]
def mlt : List (Nat × Nat × Nat) := [(11, 13, 61), (9, 73, 23), (11, 18, 62), (9, 82, 24), (5, 29, 7), (5, 38, 32), (5, 44, 33), (5, 41, 25), (5, 48, 26), (5, 65, 9), (5, 52, 34), (5, 56, 27), (5, 75, 30), (5, 105, 35), (5, 91, 31), (5, 59, 28), (5, 94, 14), (5, 62, 29), (5, 98, 12), (5, 101, 15), (9, 89, 8), (9, 93, 44), (9, 96, 20), (9, 99, 0), (9, 100, 36), (9, 101, 4), (11, 23, 63), (11, 27, 64), (11, 31, 65), (9, 147, 10), (11, 36, 66), (9, 167, 11), (11, 40, 67), (9, 173, 13), (2, 52, 12), (9, 176, 9), (9, 182, 21), (4, 25, 45), (9, 186, 46), (7, 51, 16), (7, 55, 18), (2, 69, 17), (2, 65, 11), (7, 69, 153), (7, 75, 48), (11, 45, 68), (9, 190, 90), (11, 49, 69), (9, 194, 89), (9, 197, 47), (11, 53, 70), (9, 200, 19), (11, 57, 71), (9, 203, 22), (11, 61, 72), (9, 207, 51), (8, 37, 50), (8, 45, 52), (8, 54, 16), (8, 61, 53), (8, 65, 54), (11, 65, 73), (9, 217, 55), (8, 78, 57), (8, 86, 12), (8, 90, 153), (11, 69, 74), (9, 221, 56), (11, 73, 75), (9, 224, 58), (8, 95, 10), (11, 77, 76), (9, 227, 59), (8, 108, 60), (11, 81, 77), (9, 231, 49), (11, 85, 78), (11, 89, 79), (11, 94, 80), (9, 247, 37), (11, 98, 81), (9, 250, 39), (6, 29, 38), (6, 23, 17), (9, 254, 40), (6, 33, 39), (9, 257, 41), (6, 37, 153), (11, 102, 82), (9, 261, 42), (6, 45, 43), (11, 106, 83), (9, 264, 5), (11, 110, 84), (11, 114, 85), (9, 267, 6), (11, 118, 86), (11, 122, 87), (9, 274, 1), (9, 277, 2), (0, 26, 1), (0, 30, 45), (11, 126, 88), (9, 281, 3), (11, 17, 99), (10, 87, 91), (11, 22, 109), (10, 104, 100), (10, 153, 107), (10, 112, 101), (10, 135, 104), (10, 125, 103), (10, 122, 102), (10, 138, 105), (10, 141, 106), (10, 156, 108), (11, 26, 110), (11, 30, 111), (11, 35, 112), (10, 168, 96), (11, 39, 113), (10, 173, 97), (11, 44, 119), (10, 202, 98), (10, 207, 118), (10, 210, 117), (10, 186, 114), (10, 176, 92), (10, 180, 95), (10, 183, 94), (10, 190, 115), (10, 195, 93), (10, 199, 116), (11, 48, 120), (11, 52, 122), (10, 216, 121), (11, 56, 124), (10, 229, 123), (11, 60, 125), (11, 64, 131), (10, 248, 130), (10, 235, 126), (10, 241, 128), (10, 232, 127), (10, 244, 129), (11, 68, 133), (10, 252, 132), (11, 72, 134), (11, 76, 135), (11, 80, 137), (10, 255, 136), (11, 84, 139), (10, 258, 138), (11, 88, 140), (11, 93, 141), (11, 97, 142), (11, 101, 145), (10, 270, 144), (10, 267, 143), (11, 105, 146), (11, 109, 147), (11, 113, 148), (11, 117, 149), (11, 121, 150), (11, 125, 151), (11, 129, 152), (2, 46, 1002), (7, 45, 1002), (4, 29, 1001), (2, 56, 1000), (2, 62, 1001), (7, 61, 1001), (9, 235, 1000), (8, 31, 1002), (8, 72, 1000), (8, 102, 1001), (9, 240, 1001), (6, 49, 1000)]
def nlt : List (Nat × Nat × Nat) := [(8, 82, 90)]
def mtt : List (MethodName × ByteArray × Nat × Option FieldType × Nat × Nat × Bool) := [(yX0_clear, cX0_clear, 2, none, 0, 0, false),
  (yX0_hasPlace, cX0_hasPlace, 2, (some .boolean), 1, 0, false),
  (yX0_store, cX0_store, 4, none, 3, 0, false),
  (yX0_load, cX0_load, 4, (some .boolean), 3, 0, false),
  (yX1_clear, cX1_clear, 1, none, 0, 1, false),
  (yX1_append, cX1_append, 3, (some .boolean), 2, 1, false),
  (yX1_firstWrong, cX1_firstWrong, 4, (some .int), 1, 1, false),
  (yX2_clear, cX2_clear, 1, none, 0, 2, false),
  (yX2_copyFrom, cX2_copyFrom, 2, none, 1, 2, false),
  (yX2_stands, cX2_stands, 1, (some .boolean), 0, 2, false),
  (yX2_hasWatcher, cX2_hasWatcher, 2, (some .boolean), 1, 2, false),
  (yX2_hasSleeper, cX2_hasSleeper, 2, (some .boolean), 1, 2, false),
  (yX2_everybody, cX2_everybody, 1, (some .int), 0, 2, false),
  (yX2_hasAll, cX2_hasAll, 2, (some .boolean), 1, 2, false),
  (yX2_addWatcher, cX2_addWatcher, 5, none, 4, 2, false),
  (yX2_addSleeper, cX2_addSleeper, 2, none, 1, 2, false),
  (yX2_spendHour, cX2_spendHour, 7, (some .int), 3, 2, false),
  (yX2_sitsUp, cX2_sitsUp, 6, (some .boolean), 3, 2, false),
  (yX2_allSittingUp, cX2_allSittingUp, 5, (some .int), 2, 2, false),
  (yX3_draw, cX3_draw, 2, (some .int), 1, 3, false),
  (yX4_clear, cX4_clear, 1, none, 0, 4, false),
  (yX4_remember, cX4_remember, 2, none, 1, 4, false),
  (yX4_recall, cX4_recall, 3, (some .boolean), 1, 4, false),
  (yX5_append, cX5_append, 2, (some .boolean), 1, 5, false),
  (yX5_readText, cX5_readText, 2, (some .int), 0, 5, false),
  (yX5_readClause, cX5_readClause, 3, none, 0, 5, false),
  (yX5_faultOfWord, cX5_faultOfWord, 4, (some .int), 1, 5, false),
  (yX5_readNight, cX5_readNight, 1, none, 0, 5, false),
  (yX5_readWatcher, cX5_readWatcher, 5, none, 0, 5, false),
  (yX5_readSleeper, cX5_readSleeper, 2, none, 0, 5, false),
  (yX5_readNumber, cX5_readNumber, 6, (some .int), 2, 5, false),
  (yX5_readEnd, cX5_readEnd, 1, none, 0, 5, false),
  (yX5_skipBlanks, cX5_skipBlanks, 1, none, 0, 5, false),
  (yX5_letterHere, cX5_letterHere, 1, (some .int), 0, 5, false),
  (yX5_blame, cX5_blame, 3, none, 2, 5, false),
  (yX5_isFigure, cX5_isFigure, 1, (some .boolean), 1, 5, true),
  (yX6_clear, cX6_clear, 1, none, 0, 6, false),
  (yX6_append, cX6_append, 3, (some .boolean), 2, 6, false),
  (yX6_fits, cX6_fits, 5, (some .boolean), 3, 6, false),
  (yX6_countFitting, cX6_countFitting, 5, (some .int), 2, 6, false),
  (yX6_inAllFitting, cX6_inAllFitting, 5, (some .int), 2, 6, false),
  (yX6_fittingAt, cX6_fittingAt, 7, (some .int), 3, 6, false),
  (yX6_bestToAsk, cX6_bestToAsk, 7, (some .int), 2, 6, false),
  (yX6_greaterPart, cX6_greaterPart, 7, (some .int), 3, 6, false),
  (yX7_begin, cX7_begin, 3, none, 1, 7, false),
  (yX7_copyFrom, cX7_copyFrom, 2, none, 1, 7, false),
  (yX7_passWatched, cX7_passWatched, 6, none, 3, 7, false),
  (yX7_passResting, cX7_passResting, 2, none, 1, 7, false),
  (yX7_endHour, cX7_endHour, 2, none, 1, 7, false),
  (yX7_partOf, cX7_partOf, 6, (some .int), 2, 7, false),
  (yX8_layRow, cX8_layRow, 2, none, 1, 8, false),
  (yX8_findWatches, cX8_findWatches, 3, (some .boolean), 2, 8, false),
  (yX8_chooseFrom, cX8_chooseFrom, 6, none, 2, 8, false),
  (yX8_leastPossibleEnd, cX8_leastPossibleEnd, 6, (some .int), 3, 8, false),
  (yX8_takeChosen, cX8_takeChosen, 2, none, 1, 8, false),
  (yX8_nodsWithBell, cX8_nodsWithBell, 4, (some .int), 3, 8, false),
  (yX8_nodsWithCoffee, cX8_nodsWithCoffee, 4, (some .int), 3, 8, false),
  (yX8_nodsOfAll, cX8_nodsOfAll, 5, (some .int), 2, 8, false),
  (yX8_nightsOf, cX8_nightsOf, 6, (some .int), 3, 8, false),
  (yX8_fewestHolding, cX8_fewestHolding, 5, (some .int), 2, 8, false),
  (yX8_holds, cX8_holds, 4, (some .boolean), 2, 8, false),
  (yX9_feed, cX9_feed, 2, (some .int), 1, 9, false),
  (yX9_contract, cX9_contract, 2, (some .int), 0, 9, false),
  (yX9_fault, cX9_fault, 1, (some .int), 0, 9, false),
  (yX9_told, cX9_told, 2, (some .int), 1, 9, false),
  (yX9_watcher, cX9_watcher, 3, (some .int), 2, 9, false),
  (yX9_sleeper, cX9_sleeper, 2, (some .int), 1, 9, false),
  (yX9_hour, cX9_hour, 3, (some .int), 2, 9, false),
  (yX9_coffee, cX9_coffee, 2, (some .int), 1, 9, false),
  (yX9_rest, cX9_rest, 4, (some .int), 1, 9, false),
  (yX9_drift, cX9_drift, 6, (some .int), 1, 9, false),
  (yX9_undo, cX9_undo, 1, (some .int), 0, 9, false),
  (yX9_watches, cX9_watches, 2, (some .int), 1, 9, false),
  (yX9_bellHour, cX9_bellHour, 6, (some .int), 1, 9, false),
  (yX9_coffeeFor, cX9_coffeeFor, 5, (some .int), 0, 9, false),
  (yX9_nights, cX9_nights, 2, (some .int), 1, 9, false),
  (yX9_hold, cX9_hold, 1, (some .int), 0, 9, false),
  (yX9_share, cX9_share, 2, (some .int), 1, 9, false),
  (yX9_paid, cX9_paid, 2, (some .int), 1, 9, false),
  (yX9_blink, cX9_blink, 8, (some .int), 3, 9, false),
  (yX9_see, cX9_see, 3, (some .int), 2, 9, false),
  (yX9_nodded, cX9_nodded, 3, (some .int), 2, 9, false),
  (yX9_askNext, cX9_askNext, 2, (some .int), 1, 9, false),
  (yX9_write, cX9_write, 3, (some .int), 2, 9, false),
  (yX9_tear, cX9_tear, 2, (some .int), 0, 9, false),
  (yX9_judge, cX9_judge, 1, (some .int), 0, 9, false),
  (yX9_seed, cX9_seed, 3, (some .int), 1, 9, false),
  (yX9_keep, cX9_keep, 2, (some .int), 1, 9, false),
  (yX9_goBack, cX9_goBack, 2, (some .int), 1, 9, false),
  (yX9_refusalOfHours, cX9_refusalOfHours, 2, (some .int), 1, 9, false),
  (yX9_afterCoffee, cX9_afterCoffee, 1, (some .int), 1, 9, true),
  (yX10_in, cX10_in, 6, (some .boolean), 3, 10, true),
  (yX10_has, cX10_has, 2, (some .boolean), 2, 10, true),
  (yX10_bits, cX10_bits, 3, (some .int), 1, 10, true),
  (yX10_atMost, cX10_atMost, 2, (some .int), 2, 10, true),
  (yX10_atLeast, cX10_atLeast, 2, (some .int), 2, 10, true),
  (yX10_isWatcher, cX10_isWatcher, 2, (some .boolean), 1, 10, false),
  (yX10_isSleeper, cX10_isSleeper, 2, (some .boolean), 1, 10, false),
  (yX10_isSet, cX10_isSet, 2, (some .boolean), 1, 10, false),
  (yX10_feed, cX10_feed, 2, (some .int), 1, 10, false),
  (yX10_here, cX10_here, 1, (some .int), 0, 10, false),
  (yX10_fails, cX10_fails, 3, (some .int), 2, 10, false),
  (yX10_takeNumber, cX10_takeNumber, 4, (some .int), 2, 10, false),
  (yX10_into, cX10_into, 6, (some .int), 4, 10, false),
  (yX10_takeContract, cX10_takeContract, 2, (some .int), 0, 10, false),
  (yX10_takeWatcher, cX10_takeWatcher, 3, (some .int), 0, 10, false),
  (yX10_takeSleeper, cX10_takeSleeper, 2, (some .int), 0, 10, false),
  (yX10_takeClause, cX10_takeClause, 5, (some .int), 0, 10, false),
  (yX10_takeRead, cX10_takeRead, 2, none, 0, 10, false),
  (yX10_contract, cX10_contract, 2, (some .int), 0, 10, false),
  (yX10_fault, cX10_fault, 1, (some .int), 0, 10, false),
  (yX10_told, cX10_told, 2, (some .int), 1, 10, false),
  (yX10_watcher, cX10_watcher, 3, (some .int), 2, 10, false),
  (yX10_sleeper, cX10_sleeper, 2, (some .int), 1, 10, false),
  (yX10_tire, cX10_tire, 6, (some .int), 2, 10, false),
  (yX10_sitsUp, cX10_sitsUp, 4, (some .boolean), 3, 10, true),
  (yX10_passHour, cX10_passHour, 1, none, 0, 10, false),
  (yX10_hourBy, cX10_hourBy, 7, none, 2, 10, false),
  (yX10_remember, cX10_remember, 2, none, 0, 10, false),
  (yX10_hour, cX10_hour, 3, (some .int), 2, 10, false),
  (yX10_coffee, cX10_coffee, 2, (some .int), 1, 10, false),
  (yX10_hoursRefused, cX10_hoursRefused, 2, (some .int), 1, 10, false),
  (yX10_rest, cX10_rest, 4, (some .int), 1, 10, false),
  (yX10_draw, cX10_draw, 2, (some .int), 1, 10, false),
  (yX10_drift, cX10_drift, 5, (some .int), 1, 10, false),
  (yX10_undo, cX10_undo, 2, (some .int), 0, 10, false),
  (yX10_save, cX10_save, 2, none, 0, 10, false),
  (yX10_putBack, cX10_putBack, 2, none, 0, 10, false),
  (yX10_behindRow, cX10_behindRow, 4, (some .int), 0, 10, false),
  (yX10_nextRow, cX10_nextRow, 2, (some .boolean), 0, 10, false),
  (yX10_findWatches, cX10_findWatches, 4, none, 0, 10, false),
  (yX10_watches, cX10_watches, 2, (some .int), 1, 10, false),
  (yX10_nodsOfAll, cX10_nodsOfAll, 4, (some .int), 1, 10, false),
  (yX10_bellHour, cX10_bellHour, 6, (some .int), 1, 10, false),
  (yX10_coffeeFor, cX10_coffeeFor, 5, (some .int), 0, 10, false),
  (yX10_nights, cX10_nights, 4, (some .int), 1, 10, false),
  (yX10_holds, cX10_holds, 4, (some .boolean), 1, 10, false),
  (yX10_hold, cX10_hold, 4, (some .int), 0, 10, false),
  (yX10_allHours, cX10_allHours, 3, (some .int), 0, 10, false),
  (yX10_share, cX10_share, 3, (some .int), 1, 10, false),
  (yX10_paid, cX10_paid, 5, (some .int), 1, 10, false),
  (yX10_blink, cX10_blink, 8, (some .int), 3, 10, false),
  (yX10_see, cX10_see, 3, (some .int), 2, 10, false),
  (yX10_couldNod, cX10_couldNod, 5, (some .boolean), 2, 10, false),
  (yX10_sureOf, cX10_sureOf, 5, (some .int), 1, 10, false),
  (yX10_nodded, cX10_nodded, 6, (some .int), 2, 10, false),
  (yX10_askNext, cX10_askNext, 8, (some .int), 1, 10, false),
  (yX10_write, cX10_write, 3, (some .int), 2, 10, false),
  (yX10_tear, cX10_tear, 2, (some .int), 0, 10, false),
  (yX10_judge, cX10_judge, 2, (some .int), 0, 10, false),
  (yX10_seed, cX10_seed, 3, (some .int), 1, 10, false),
  (yX10_keep, cX10_keep, 3, (some .int), 1, 10, false),
  (yX10_goBack, cX10_goBack, 3, (some .int), 1, 10, false),
  (yJ6_bitCount_0f7a4, cJ6_bitCount_0f7a4, 1, (some .int), 1, 12, true)]
def gw : List Cond := lw_tbl.filter goodWord
theorem gw_in {w : Cond} {i : Nat} (h : lw_tbl[i]? = some w) (hg : goodWord w = true) : w ∈ gw := List.mem_filter.mpr ⟨List.mem_of_getElem? h, hg⟩
def okF (q : Nat × Nat × Nat × Nat) : Prop := ∃ (C : String) (T : u_T) (N : Nat), classes[q.2.2.1]? = some (C, T, N) ∧ q.2.2.2 < N ∧ Cond.fieldLink (cn q.1) q.2.1 (T q.2.2.2).1 (T q.2.2.2).2.1 (T q.2.2.2).2.2.1 ∈ gw
theorem okF0 : okF (2, 27, 2, 0) := ⟨_, _, _, rfl, Nat.le_of_ble_eq_true rfl, gw_in (i := 83) (by decide +kernel) rfl⟩
theorem okF1 : okF (8, 58, 2, 0) := ⟨_, _, _, rfl, Nat.le_of_ble_eq_true rfl, gw_in (i := 84) (by decide +kernel) rfl⟩
theorem okF2 : okF (9, 108, 2, 0) := ⟨_, _, _, rfl, Nat.le_of_ble_eq_true rfl, gw_in (i := 85) (by decide +kernel) rfl⟩
theorem okF3 : okF (5, 79, 2, 0) := ⟨_, _, _, rfl, Nat.le_of_ble_eq_true rfl, gw_in (i := 86) (by decide +kernel) rfl⟩
theorem okF4 : okF (7, 79, 2, 0) := ⟨_, _, _, rfl, Nat.le_of_ble_eq_true rfl, gw_in (i := 87) (by decide +kernel) rfl⟩
theorem okF5 : okF (2, 31, 2, 1) := ⟨_, _, _, rfl, Nat.le_of_ble_eq_true rfl, gw_in (i := 88) (by decide +kernel) rfl⟩
theorem okF6 : okF (7, 60, 2, 1) := ⟨_, _, _, rfl, Nat.le_of_ble_eq_true rfl, gw_in (i := 89) (by decide +kernel) rfl⟩
theorem okF7 : okF (9, 111, 2, 1) := ⟨_, _, _, rfl, Nat.le_of_ble_eq_true rfl, gw_in (i := 90) (by decide +kernel) rfl⟩
theorem okF8 : okF (5, 82, 2, 1) := ⟨_, _, _, rfl, Nat.le_of_ble_eq_true rfl, gw_in (i := 91) (by decide +kernel) rfl⟩
theorem okF9 : okF (2, 34, 2, 2) := ⟨_, _, _, rfl, Nat.le_of_ble_eq_true rfl, gw_in (i := 92) (by decide +kernel) rfl⟩
theorem okF10 : okF (7, 66, 2, 2) := ⟨_, _, _, rfl, Nat.le_of_ble_eq_true rfl, gw_in (i := 93) (by decide +kernel) rfl⟩
theorem okF11 : okF (9, 114, 2, 2) := ⟨_, _, _, rfl, Nat.le_of_ble_eq_true rfl, gw_in (i := 94) (by decide +kernel) rfl⟩
theorem okF12 : okF (5, 85, 2, 2) := ⟨_, _, _, rfl, Nat.le_of_ble_eq_true rfl, gw_in (i := 95) (by decide +kernel) rfl⟩
theorem okF13 : okF (2, 37, 2, 3) := ⟨_, _, _, rfl, Nat.le_of_ble_eq_true rfl, gw_in (i := 96) (by decide +kernel) rfl⟩
theorem okF14 : okF (9, 117, 2, 3) := ⟨_, _, _, rfl, Nat.le_of_ble_eq_true rfl, gw_in (i := 97) (by decide +kernel) rfl⟩
theorem okF15 : okF (5, 88, 2, 3) := ⟨_, _, _, rfl, Nat.le_of_ble_eq_true rfl, gw_in (i := 98) (by decide +kernel) rfl⟩
theorem okF16 : okF (2, 40, 2, 4) := ⟨_, _, _, rfl, Nat.le_of_ble_eq_true rfl, gw_in (i := 99) (by decide +kernel) rfl⟩
theorem okF17 : okF (9, 102, 2, 4) := ⟨_, _, _, rfl, Nat.le_of_ble_eq_true rfl, gw_in (i := 100) (by decide +kernel) rfl⟩
theorem okF18 : okF (8, 49, 2, 4) := ⟨_, _, _, rfl, Nat.le_of_ble_eq_true rfl, gw_in (i := 101) (by decide +kernel) rfl⟩
theorem okF19 : okF (5, 69, 2, 4) := ⟨_, _, _, rfl, Nat.le_of_ble_eq_true rfl, gw_in (i := 102) (by decide +kernel) rfl⟩
theorem okF20 : okF (2, 43, 2, 5) := ⟨_, _, _, rfl, Nat.le_of_ble_eq_true rfl, gw_in (i := 103) (by decide +kernel) rfl⟩
theorem okF21 : okF (5, 72, 2, 5) := ⟨_, _, _, rfl, Nat.le_of_ble_eq_true rfl, gw_in (i := 104) (by decide +kernel) rfl⟩
theorem okF22 : okF (9, 120, 2, 5) := ⟨_, _, _, rfl, Nat.le_of_ble_eq_true rfl, gw_in (i := 105) (by decide +kernel) rfl⟩
theorem okF23 : okF (6, 43, 2, 5) := ⟨_, _, _, rfl, Nat.le_of_ble_eq_true rfl, gw_in (i := 106) (by decide +kernel) rfl⟩
theorem okF24 : okF (2, 9, 2, 6) := ⟨_, _, _, rfl, Nat.le_of_ble_eq_true rfl, gw_in (i := 107) (by decide +kernel) rfl⟩
theorem okF25 : okF (7, 40, 2, 6) := ⟨_, _, _, rfl, Nat.le_of_ble_eq_true rfl, gw_in (i := 108) (by decide +kernel) rfl⟩
theorem okF26 : okF (2, 15, 2, 7) := ⟨_, _, _, rfl, Nat.le_of_ble_eq_true rfl, gw_in (i := 109) (by decide +kernel) rfl⟩
theorem okF27 : okF (9, 155, 2, 7) := ⟨_, _, _, rfl, Nat.le_of_ble_eq_true rfl, gw_in (i := 110) (by decide +kernel) rfl⟩
theorem okF28 : okF (8, 99, 2, 7) := ⟨_, _, _, rfl, Nat.le_of_ble_eq_true rfl, gw_in (i := 111) (by decide +kernel) rfl⟩
theorem okF29 : okF (2, 18, 2, 8) := ⟨_, _, _, rfl, Nat.le_of_ble_eq_true rfl, gw_in (i := 112) (by decide +kernel) rfl⟩
theorem okF30 : okF (8, 69, 2, 8) := ⟨_, _, _, rfl, Nat.le_of_ble_eq_true rfl, gw_in (i := 113) (by decide +kernel) rfl⟩
theorem okF31 : okF (9, 158, 2, 8) := ⟨_, _, _, rfl, Nat.le_of_ble_eq_true rfl, gw_in (i := 114) (by decide +kernel) rfl⟩
theorem okF32 : okF (2, 21, 2, 9) := ⟨_, _, _, rfl, Nat.le_of_ble_eq_true rfl, gw_in (i := 115) (by decide +kernel) rfl⟩
theorem okF33 : okF (9, 161, 2, 9) := ⟨_, _, _, rfl, Nat.le_of_ble_eq_true rfl, gw_in (i := 116) (by decide +kernel) rfl⟩
theorem okF34 : okF (8, 105, 2, 9) := ⟨_, _, _, rfl, Nat.le_of_ble_eq_true rfl, gw_in (i := 117) (by decide +kernel) rfl⟩
theorem okF35 : okF (2, 24, 2, 10) := ⟨_, _, _, rfl, Nat.le_of_ble_eq_true rfl, gw_in (i := 118) (by decide +kernel) rfl⟩
theorem okF36 : okF (9, 170, 2, 10) := ⟨_, _, _, rfl, Nat.le_of_ble_eq_true rfl, gw_in (i := 119) (by decide +kernel) rfl⟩
theorem okF37 : okF (5, 12, 5, 0) := ⟨_, _, _, rfl, Nat.le_of_ble_eq_true rfl, gw_in (i := 144) (by decide +kernel) rfl⟩
theorem okF38 : okF (9, 86, 5, 0) := ⟨_, _, _, rfl, Nat.le_of_ble_eq_true rfl, gw_in (i := 145) (by decide +kernel) rfl⟩
theorem okF39 : okF (5, 26, 5, 1) := ⟨_, _, _, rfl, Nat.le_of_ble_eq_true rfl, gw_in (i := 146) (by decide +kernel) rfl⟩
theorem okF40 : okF (9, 78, 5, 1) := ⟨_, _, _, rfl, Nat.le_of_ble_eq_true rfl, gw_in (i := 147) (by decide +kernel) rfl⟩
theorem okF41 : okF (5, 18, 5, 2) := ⟨_, _, _, rfl, Nat.le_of_ble_eq_true rfl, gw_in (i := 148) (by decide +kernel) rfl⟩
theorem okF42 : okF (9, 105, 5, 2) := ⟨_, _, _, rfl, Nat.le_of_ble_eq_true rfl, gw_in (i := 149) (by decide +kernel) rfl⟩
theorem okF43 : okF (5, 22, 5, 3) := ⟨_, _, _, rfl, Nat.le_of_ble_eq_true rfl, gw_in (i := 150) (by decide +kernel) rfl⟩
theorem okF44 : okF (5, 32, 5, 4) := ⟨_, _, _, rfl, Nat.le_of_ble_eq_true rfl, gw_in (i := 151) (by decide +kernel) rfl⟩
theorem okF45 : okF (5, 35, 5, 5) := ⟨_, _, _, rfl, Nat.le_of_ble_eq_true rfl, gw_in (i := 152) (by decide +kernel) rfl⟩
theorem okF46 : okF (7, 18, 7, 0) := ⟨_, _, _, rfl, Nat.le_of_ble_eq_true rfl, gw_in (i := 174) (by decide +kernel) rfl⟩
theorem okF47 : okF (9, 123, 7, 0) := ⟨_, _, _, rfl, Nat.le_of_ble_eq_true rfl, gw_in (i := 175) (by decide +kernel) rfl⟩
theorem okF48 : okF (7, 22, 7, 1) := ⟨_, _, _, rfl, Nat.le_of_ble_eq_true rfl, gw_in (i := 176) (by decide +kernel) rfl⟩
theorem okF49 : okF (9, 126, 7, 1) := ⟨_, _, _, rfl, Nat.le_of_ble_eq_true rfl, gw_in (i := 177) (by decide +kernel) rfl⟩
theorem okF50 : okF (7, 25, 7, 2) := ⟨_, _, _, rfl, Nat.le_of_ble_eq_true rfl, gw_in (i := 178) (by decide +kernel) rfl⟩
theorem okF51 : okF (9, 127, 7, 2) := ⟨_, _, _, rfl, Nat.le_of_ble_eq_true rfl, gw_in (i := 179) (by decide +kernel) rfl⟩
theorem okF52 : okF (7, 28, 7, 3) := ⟨_, _, _, rfl, Nat.le_of_ble_eq_true rfl, gw_in (i := 180) (by decide +kernel) rfl⟩
theorem okF53 : okF (9, 130, 7, 3) := ⟨_, _, _, rfl, Nat.le_of_ble_eq_true rfl, gw_in (i := 181) (by decide +kernel) rfl⟩
theorem okF54 : okF (7, 31, 7, 4) := ⟨_, _, _, rfl, Nat.le_of_ble_eq_true rfl, gw_in (i := 182) (by decide +kernel) rfl⟩
theorem okF55 : okF (9, 133, 7, 4) := ⟨_, _, _, rfl, Nat.le_of_ble_eq_true rfl, gw_in (i := 183) (by decide +kernel) rfl⟩
theorem okF56 : okF (7, 34, 7, 5) := ⟨_, _, _, rfl, Nat.le_of_ble_eq_true rfl, gw_in (i := 184) (by decide +kernel) rfl⟩
theorem okF57 : okF (9, 136, 7, 5) := ⟨_, _, _, rfl, Nat.le_of_ble_eq_true rfl, gw_in (i := 185) (by decide +kernel) rfl⟩
theorem okF58 : okF (7, 37, 7, 6) := ⟨_, _, _, rfl, Nat.le_of_ble_eq_true rfl, gw_in (i := 186) (by decide +kernel) rfl⟩
theorem okF59 : okF (9, 139, 7, 6) := ⟨_, _, _, rfl, Nat.le_of_ble_eq_true rfl, gw_in (i := 187) (by decide +kernel) rfl⟩
theorem okF60 : okF (7, 9, 7, 7) := ⟨_, _, _, rfl, Nat.le_of_ble_eq_true rfl, gw_in (i := 188) (by decide +kernel) rfl⟩
theorem okF61 : okF (8, 26, 7, 7) := ⟨_, _, _, rfl, Nat.le_of_ble_eq_true rfl, gw_in (i := 189) (by decide +kernel) rfl⟩
theorem okF62 : okF (1, 22, 7, 7) := ⟨_, _, _, rfl, Nat.le_of_ble_eq_true rfl, gw_in (i := 190) (by decide +kernel) rfl⟩
theorem okF63 : okF (9, 151, 7, 7) := ⟨_, _, _, rfl, Nat.le_of_ble_eq_true rfl, gw_in (i := 191) (by decide +kernel) rfl⟩
theorem okF64 : okF (7, 15, 7, 8) := ⟨_, _, _, rfl, Nat.le_of_ble_eq_true rfl, gw_in (i := 192) (by decide +kernel) rfl⟩
theorem okF65 : okF (9, 164, 7, 8) := ⟨_, _, _, rfl, Nat.le_of_ble_eq_true rfl, gw_in (i := 193) (by decide +kernel) rfl⟩
theorem okF66 : okF (4, 18, 4, 0) := ⟨_, _, _, rfl, Nat.le_of_ble_eq_true rfl, gw_in (i := 222) (by decide +kernel) rfl⟩
theorem okF67 : okF (9, 146, 4, 0) := ⟨_, _, _, rfl, Nat.le_of_ble_eq_true rfl, gw_in (i := 223) (by decide +kernel) rfl⟩
theorem okF68 : okF (4, 22, 4, 1) := ⟨_, _, _, rfl, Nat.le_of_ble_eq_true rfl, gw_in (i := 224) (by decide +kernel) rfl⟩
theorem okF69 : okF (4, 11, 4, 2) := ⟨_, _, _, rfl, Nat.le_of_ble_eq_true rfl, gw_in (i := 225) (by decide +kernel) rfl⟩
theorem okF70 : okF (0, 11, 0, 0) := ⟨_, _, _, rfl, Nat.le_of_ble_eq_true rfl, gw_in (i := 241) (by decide +kernel) rfl⟩
theorem okF71 : okF (0, 17, 0, 1) := ⟨_, _, _, rfl, Nat.le_of_ble_eq_true rfl, gw_in (i := 242) (by decide +kernel) rfl⟩
theorem okF72 : okF (0, 21, 0, 2) := ⟨_, _, _, rfl, Nat.le_of_ble_eq_true rfl, gw_in (i := 243) (by decide +kernel) rfl⟩
theorem okF73 : okF (3, 7, 3, 0) := ⟨_, _, _, rfl, Nat.le_of_ble_eq_true rfl, gw_in (i := 258) (by decide +kernel) rfl⟩
theorem okF74 : okF (0, 34, 3, 0) := ⟨_, _, _, rfl, Nat.le_of_ble_eq_true rfl, gw_in (i := 259) (by decide +kernel) rfl⟩
theorem okF75 : okF (9, 271, 3, 0) := ⟨_, _, _, rfl, Nat.le_of_ble_eq_true rfl, gw_in (i := 260) (by decide +kernel) rfl⟩
theorem okF76 : okF (8, 9, 8, 0) := ⟨_, _, _, rfl, Nat.le_of_ble_eq_true rfl, gw_in (i := 272) (by decide +kernel) rfl⟩
theorem okF77 : okF (9, 214, 8, 0) := ⟨_, _, _, rfl, Nat.le_of_ble_eq_true rfl, gw_in (i := 273) (by decide +kernel) rfl⟩
theorem okF78 : okF (8, 41, 8, 1) := ⟨_, _, _, rfl, Nat.le_of_ble_eq_true rfl, gw_in (i := 274) (by decide +kernel) rfl⟩
theorem okF79 : okF (9, 211, 8, 1) := ⟨_, _, _, rfl, Nat.le_of_ble_eq_true rfl, gw_in (i := 275) (by decide +kernel) rfl⟩
theorem okF80 : okF (8, 17, 8, 2) := ⟨_, _, _, rfl, Nat.le_of_ble_eq_true rfl, gw_in (i := 276) (by decide +kernel) rfl⟩
theorem okF81 : okF (8, 20, 8, 3) := ⟨_, _, _, rfl, Nat.le_of_ble_eq_true rfl, gw_in (i := 277) (by decide +kernel) rfl⟩
theorem okF82 : okF (8, 23, 8, 4) := ⟨_, _, _, rfl, Nat.le_of_ble_eq_true rfl, gw_in (i := 278) (by decide +kernel) rfl⟩
theorem okF83 : okF (6, 19, 6, 0) := ⟨_, _, _, rfl, Nat.le_of_ble_eq_true rfl, gw_in (i := 296) (by decide +kernel) rfl⟩
theorem okF84 : okF (9, 142, 6, 0) := ⟨_, _, _, rfl, Nat.le_of_ble_eq_true rfl, gw_in (i := 297) (by decide +kernel) rfl⟩
theorem okF85 : okF (6, 9, 6, 1) := ⟨_, _, _, rfl, Nat.le_of_ble_eq_true rfl, gw_in (i := 298) (by decide +kernel) rfl⟩
theorem okF86 : okF (6, 15, 6, 2) := ⟨_, _, _, rfl, Nat.le_of_ble_eq_true rfl, gw_in (i := 299) (by decide +kernel) rfl⟩
theorem okF87 : okF (1, 18, 1, 0) := ⟨_, _, _, rfl, Nat.le_of_ble_eq_true rfl, gw_in (i := 313) (by decide +kernel) rfl⟩
theorem okF88 : okF (9, 145, 1, 0) := ⟨_, _, _, rfl, Nat.le_of_ble_eq_true rfl, gw_in (i := 314) (by decide +kernel) rfl⟩
theorem okF89 : okF (1, 9, 1, 1) := ⟨_, _, _, rfl, Nat.le_of_ble_eq_true rfl, gw_in (i := 315) (by decide +kernel) rfl⟩
theorem okF90 : okF (1, 15, 1, 2) := ⟨_, _, _, rfl, Nat.le_of_ble_eq_true rfl, gw_in (i := 316) (by decide +kernel) rfl⟩
theorem okF91 : okF (9, 10, 9, 0) := ⟨_, _, _, rfl, Nat.le_of_ble_eq_true rfl, gw_in (i := 324) (by decide +kernel) rfl⟩
theorem okF92 : okF (9, 19, 9, 1) := ⟨_, _, _, rfl, Nat.le_of_ble_eq_true rfl, gw_in (i := 325) (by decide +kernel) rfl⟩
theorem okF93 : okF (9, 26, 9, 2) := ⟨_, _, _, rfl, Nat.le_of_ble_eq_true rfl, gw_in (i := 326) (by decide +kernel) rfl⟩
theorem okF94 : okF (9, 33, 9, 3) := ⟨_, _, _, rfl, Nat.le_of_ble_eq_true rfl, gw_in (i := 327) (by decide +kernel) rfl⟩
theorem okF95 : okF (9, 40, 9, 4) := ⟨_, _, _, rfl, Nat.le_of_ble_eq_true rfl, gw_in (i := 328) (by decide +kernel) rfl⟩
theorem okF96 : okF (9, 47, 9, 5) := ⟨_, _, _, rfl, Nat.le_of_ble_eq_true rfl, gw_in (i := 329) (by decide +kernel) rfl⟩
theorem okF97 : okF (9, 54, 9, 6) := ⟨_, _, _, rfl, Nat.le_of_ble_eq_true rfl, gw_in (i := 330) (by decide +kernel) rfl⟩
theorem okF98 : okF (9, 61, 9, 7) := ⟨_, _, _, rfl, Nat.le_of_ble_eq_true rfl, gw_in (i := 331) (by decide +kernel) rfl⟩
theorem okF99 : okF (9, 68, 9, 8) := ⟨_, _, _, rfl, Nat.le_of_ble_eq_true rfl, gw_in (i := 332) (by decide +kernel) rfl⟩
theorem okF100 : okF (10, 81, 10, 0) := ⟨_, _, _, rfl, Nat.le_of_ble_eq_true rfl, gw_in (i := 769) (by decide +kernel) rfl⟩
theorem okF101 : okF (10, 144, 10, 1) := ⟨_, _, _, rfl, Nat.le_of_ble_eq_true rfl, gw_in (i := 770) (by decide +kernel) rfl⟩
theorem okF102 : okF (10, 147, 10, 2) := ⟨_, _, _, rfl, Nat.le_of_ble_eq_true rfl, gw_in (i := 771) (by decide +kernel) rfl⟩
theorem okF103 : okF (10, 150, 10, 3) := ⟨_, _, _, rfl, Nat.le_of_ble_eq_true rfl, gw_in (i := 772) (by decide +kernel) rfl⟩
theorem okF104 : okF (10, 84, 10, 4) := ⟨_, _, _, rfl, Nat.le_of_ble_eq_true rfl, gw_in (i := 773) (by decide +kernel) rfl⟩
theorem okF105 : okF (10, 7, 10, 5) := ⟨_, _, _, rfl, Nat.le_of_ble_eq_true rfl, gw_in (i := 774) (by decide +kernel) rfl⟩
theorem okF106 : okF (10, 13, 10, 6) := ⟨_, _, _, rfl, Nat.le_of_ble_eq_true rfl, gw_in (i := 775) (by decide +kernel) rfl⟩
theorem okF107 : okF (10, 16, 10, 7) := ⟨_, _, _, rfl, Nat.le_of_ble_eq_true rfl, gw_in (i := 776) (by decide +kernel) rfl⟩
theorem okF108 : okF (10, 91, 10, 8) := ⟨_, _, _, rfl, Nat.le_of_ble_eq_true rfl, gw_in (i := 777) (by decide +kernel) rfl⟩
theorem okF109 : okF (10, 19, 10, 9) := ⟨_, _, _, rfl, Nat.le_of_ble_eq_true rfl, gw_in (i := 778) (by decide +kernel) rfl⟩
theorem okF110 : okF (10, 22, 10, 10) := ⟨_, _, _, rfl, Nat.le_of_ble_eq_true rfl, gw_in (i := 779) (by decide +kernel) rfl⟩
theorem okF111 : okF (10, 219, 10, 11) := ⟨_, _, _, rfl, Nat.le_of_ble_eq_true rfl, gw_in (i := 780) (by decide +kernel) rfl⟩
theorem okF112 : okF (10, 25, 10, 12) := ⟨_, _, _, rfl, Nat.le_of_ble_eq_true rfl, gw_in (i := 781) (by decide +kernel) rfl⟩
theorem okF113 : okF (10, 97, 10, 13) := ⟨_, _, _, rfl, Nat.le_of_ble_eq_true rfl, gw_in (i := 782) (by decide +kernel) rfl⟩
theorem okF114 : okF (10, 28, 10, 14) := ⟨_, _, _, rfl, Nat.le_of_ble_eq_true rfl, gw_in (i := 783) (by decide +kernel) rfl⟩
theorem okF115 : okF (10, 101, 10, 15) := ⟨_, _, _, rfl, Nat.le_of_ble_eq_true rfl, gw_in (i := 784) (by decide +kernel) rfl⟩
theorem okF116 : okF (10, 119, 10, 16) := ⟨_, _, _, rfl, Nat.le_of_ble_eq_true rfl, gw_in (i := 785) (by decide +kernel) rfl⟩
theorem okF117 : okF (10, 116, 10, 17) := ⟨_, _, _, rfl, Nat.le_of_ble_eq_true rfl, gw_in (i := 786) (by decide +kernel) rfl⟩
theorem okF118 : okF (10, 32, 10, 18) := ⟨_, _, _, rfl, Nat.le_of_ble_eq_true rfl, gw_in (i := 787) (by decide +kernel) rfl⟩
theorem okF119 : okF (10, 129, 10, 19) := ⟨_, _, _, rfl, Nat.le_of_ble_eq_true rfl, gw_in (i := 788) (by decide +kernel) rfl⟩
theorem okF120 : okF (10, 35, 10, 20) := ⟨_, _, _, rfl, Nat.le_of_ble_eq_true rfl, gw_in (i := 789) (by decide +kernel) rfl⟩
theorem okF121 : okF (10, 38, 10, 21) := ⟨_, _, _, rfl, Nat.le_of_ble_eq_true rfl, gw_in (i := 790) (by decide +kernel) rfl⟩
theorem okF122 : okF (10, 41, 10, 22) := ⟨_, _, _, rfl, Nat.le_of_ble_eq_true rfl, gw_in (i := 791) (by decide +kernel) rfl⟩
theorem okF123 : okF (10, 44, 10, 23) := ⟨_, _, _, rfl, Nat.le_of_ble_eq_true rfl, gw_in (i := 792) (by decide +kernel) rfl⟩
theorem okF124 : okF (10, 132, 10, 24) := ⟨_, _, _, rfl, Nat.le_of_ble_eq_true rfl, gw_in (i := 793) (by decide +kernel) rfl⟩
theorem okF125 : okF (10, 47, 10, 25) := ⟨_, _, _, rfl, Nat.le_of_ble_eq_true rfl, gw_in (i := 794) (by decide +kernel) rfl⟩
theorem okF126 : okF (10, 165, 10, 26) := ⟨_, _, _, rfl, Nat.le_of_ble_eq_true rfl, gw_in (i := 795) (by decide +kernel) rfl⟩
theorem okF127 : okF (10, 50, 10, 27) := ⟨_, _, _, rfl, Nat.le_of_ble_eq_true rfl, gw_in (i := 796) (by decide +kernel) rfl⟩
theorem okF128 : okF (10, 53, 10, 28) := ⟨_, _, _, rfl, Nat.le_of_ble_eq_true rfl, gw_in (i := 797) (by decide +kernel) rfl⟩
theorem okF129 : okF (10, 56, 10, 29) := ⟨_, _, _, rfl, Nat.le_of_ble_eq_true rfl, gw_in (i := 798) (by decide +kernel) rfl⟩
theorem okF130 : okF (10, 59, 10, 30) := ⟨_, _, _, rfl, Nat.le_of_ble_eq_true rfl, gw_in (i := 799) (by decide +kernel) rfl⟩
theorem okF131 : okF (10, 238, 10, 31) := ⟨_, _, _, rfl, Nat.le_of_ble_eq_true rfl, gw_in (i := 800) (by decide +kernel) rfl⟩
theorem okF132 : okF (10, 159, 10, 32) := ⟨_, _, _, rfl, Nat.le_of_ble_eq_true rfl, gw_in (i := 801) (by decide +kernel) rfl⟩
theorem okF133 : okF (10, 62, 10, 33) := ⟨_, _, _, rfl, Nat.le_of_ble_eq_true rfl, gw_in (i := 802) (by decide +kernel) rfl⟩
theorem okF134 : okF (10, 65, 10, 34) := ⟨_, _, _, rfl, Nat.le_of_ble_eq_true rfl, gw_in (i := 803) (by decide +kernel) rfl⟩
theorem okF135 : okF (10, 162, 10, 35) := ⟨_, _, _, rfl, Nat.le_of_ble_eq_true rfl, gw_in (i := 804) (by decide +kernel) rfl⟩
theorem okF136 : okF (10, 69, 10, 36) := ⟨_, _, _, rfl, Nat.le_of_ble_eq_true rfl, gw_in (i := 805) (by decide +kernel) rfl⟩
theorem okF137 : okF (10, 72, 10, 37) := ⟨_, _, _, rfl, Nat.le_of_ble_eq_true rfl, gw_in (i := 806) (by decide +kernel) rfl⟩
theorem okF138 : okF (10, 75, 10, 38) := ⟨_, _, _, rfl, Nat.le_of_ble_eq_true rfl, gw_in (i := 807) (by decide +kernel) rfl⟩
theorem okF139 : okF (10, 78, 10, 39) := ⟨_, _, _, rfl, Nat.le_of_ble_eq_true rfl, gw_in (i := 808) (by decide +kernel) rfl⟩
theorem flt_ok : ∀ q ∈ flt, okF q := List.forall_mem_cons.mpr ⟨okF0, List.forall_mem_cons.mpr ⟨okF1, List.forall_mem_cons.mpr ⟨okF2, List.forall_mem_cons.mpr ⟨okF3, List.forall_mem_cons.mpr ⟨okF4, List.forall_mem_cons.mpr ⟨okF5, List.forall_mem_cons.mpr ⟨okF6, List.forall_mem_cons.mpr ⟨okF7, List.forall_mem_cons.mpr ⟨okF8, List.forall_mem_cons.mpr ⟨okF9, List.forall_mem_cons.mpr ⟨okF10, List.forall_mem_cons.mpr ⟨okF11, List.forall_mem_cons.mpr ⟨okF12, List.forall_mem_cons.mpr ⟨okF13, List.forall_mem_cons.mpr ⟨okF14, List.forall_mem_cons.mpr ⟨okF15, List.forall_mem_cons.mpr ⟨okF16, List.forall_mem_cons.mpr ⟨okF17, List.forall_mem_cons.mpr ⟨okF18, List.forall_mem_cons.mpr ⟨okF19, List.forall_mem_cons.mpr ⟨okF20, List.forall_mem_cons.mpr ⟨okF21, List.forall_mem_cons.mpr ⟨okF22, List.forall_mem_cons.mpr ⟨okF23, List.forall_mem_cons.mpr ⟨okF24, List.forall_mem_cons.mpr ⟨okF25, List.forall_mem_cons.mpr ⟨okF26, List.forall_mem_cons.mpr ⟨okF27, List.forall_mem_cons.mpr ⟨okF28, List.forall_mem_cons.mpr ⟨okF29, List.forall_mem_cons.mpr ⟨okF30, List.forall_mem_cons.mpr ⟨okF31, List.forall_mem_cons.mpr ⟨okF32, List.forall_mem_cons.mpr ⟨okF33, List.forall_mem_cons.mpr ⟨okF34, List.forall_mem_cons.mpr ⟨okF35, List.forall_mem_cons.mpr ⟨okF36, List.forall_mem_cons.mpr ⟨okF37, List.forall_mem_cons.mpr ⟨okF38, List.forall_mem_cons.mpr ⟨okF39, List.forall_mem_cons.mpr ⟨okF40, List.forall_mem_cons.mpr ⟨okF41, List.forall_mem_cons.mpr ⟨okF42, List.forall_mem_cons.mpr ⟨okF43, List.forall_mem_cons.mpr ⟨okF44, List.forall_mem_cons.mpr ⟨okF45, List.forall_mem_cons.mpr ⟨okF46, List.forall_mem_cons.mpr ⟨okF47, List.forall_mem_cons.mpr ⟨okF48, List.forall_mem_cons.mpr ⟨okF49, List.forall_mem_cons.mpr ⟨okF50, List.forall_mem_cons.mpr ⟨okF51, List.forall_mem_cons.mpr ⟨okF52, List.forall_mem_cons.mpr ⟨okF53, List.forall_mem_cons.mpr ⟨okF54, List.forall_mem_cons.mpr ⟨okF55, List.forall_mem_cons.mpr ⟨okF56, List.forall_mem_cons.mpr ⟨okF57, List.forall_mem_cons.mpr ⟨okF58, List.forall_mem_cons.mpr ⟨okF59, List.forall_mem_cons.mpr ⟨okF60, List.forall_mem_cons.mpr ⟨okF61, List.forall_mem_cons.mpr ⟨okF62, List.forall_mem_cons.mpr ⟨okF63, List.forall_mem_cons.mpr ⟨okF64, List.forall_mem_cons.mpr ⟨okF65, List.forall_mem_cons.mpr ⟨okF66, List.forall_mem_cons.mpr ⟨okF67, List.forall_mem_cons.mpr ⟨okF68, List.forall_mem_cons.mpr ⟨okF69, List.forall_mem_cons.mpr ⟨okF70, List.forall_mem_cons.mpr ⟨okF71, List.forall_mem_cons.mpr ⟨okF72, List.forall_mem_cons.mpr ⟨okF73, List.forall_mem_cons.mpr ⟨okF74, List.forall_mem_cons.mpr ⟨okF75, List.forall_mem_cons.mpr ⟨okF76, List.forall_mem_cons.mpr ⟨okF77, List.forall_mem_cons.mpr ⟨okF78, List.forall_mem_cons.mpr ⟨okF79, List.forall_mem_cons.mpr ⟨okF80, List.forall_mem_cons.mpr ⟨okF81, List.forall_mem_cons.mpr ⟨okF82, List.forall_mem_cons.mpr ⟨okF83, List.forall_mem_cons.mpr ⟨okF84, List.forall_mem_cons.mpr ⟨okF85, List.forall_mem_cons.mpr ⟨okF86, List.forall_mem_cons.mpr ⟨okF87, List.forall_mem_cons.mpr ⟨okF88, List.forall_mem_cons.mpr ⟨okF89, List.forall_mem_cons.mpr ⟨okF90, List.forall_mem_cons.mpr ⟨okF91, List.forall_mem_cons.mpr ⟨okF92, List.forall_mem_cons.mpr ⟨okF93, List.forall_mem_cons.mpr ⟨okF94, List.forall_mem_cons.mpr ⟨okF95, List.forall_mem_cons.mpr ⟨okF96, List.forall_mem_cons.mpr ⟨okF97, List.forall_mem_cons.mpr ⟨okF98, List.forall_mem_cons.mpr ⟨okF99, List.forall_mem_cons.mpr ⟨okF100, List.forall_mem_cons.mpr ⟨okF101, List.forall_mem_cons.mpr ⟨okF102, List.forall_mem_cons.mpr ⟨okF103, List.forall_mem_cons.mpr ⟨okF104, List.forall_mem_cons.mpr ⟨okF105, List.forall_mem_cons.mpr ⟨okF106, List.forall_mem_cons.mpr ⟨okF107, List.forall_mem_cons.mpr ⟨okF108, List.forall_mem_cons.mpr ⟨okF109, List.forall_mem_cons.mpr ⟨okF110, List.forall_mem_cons.mpr ⟨okF111, List.forall_mem_cons.mpr ⟨okF112, List.forall_mem_cons.mpr ⟨okF113, List.forall_mem_cons.mpr ⟨okF114, List.forall_mem_cons.mpr ⟨okF115, List.forall_mem_cons.mpr ⟨okF116, List.forall_mem_cons.mpr ⟨okF117, List.forall_mem_cons.mpr ⟨okF118, List.forall_mem_cons.mpr ⟨okF119, List.forall_mem_cons.mpr ⟨okF120, List.forall_mem_cons.mpr ⟨okF121, List.forall_mem_cons.mpr ⟨okF122, List.forall_mem_cons.mpr ⟨okF123, List.forall_mem_cons.mpr ⟨okF124, List.forall_mem_cons.mpr ⟨okF125, List.forall_mem_cons.mpr ⟨okF126, List.forall_mem_cons.mpr ⟨okF127, List.forall_mem_cons.mpr ⟨okF128, List.forall_mem_cons.mpr ⟨okF129, List.forall_mem_cons.mpr ⟨okF130, List.forall_mem_cons.mpr ⟨okF131, List.forall_mem_cons.mpr ⟨okF132, List.forall_mem_cons.mpr ⟨okF133, List.forall_mem_cons.mpr ⟨okF134, List.forall_mem_cons.mpr ⟨okF135, List.forall_mem_cons.mpr ⟨okF136, List.forall_mem_cons.mpr ⟨okF137, List.forall_mem_cons.mpr ⟨okF138, List.forall_mem_cons.mpr ⟨okF139, fun _ h => absurd h List.not_mem_nil⟩⟩⟩⟩⟩⟩⟩⟩⟩⟩⟩⟩⟩⟩⟩⟩⟩⟩⟩⟩⟩⟩⟩⟩⟩⟩⟩⟩⟩⟩⟩⟩⟩⟩⟩⟩⟩⟩⟩⟩⟩⟩⟩⟩⟩⟩⟩⟩⟩⟩⟩⟩⟩⟩⟩⟩⟩⟩⟩⟩⟩⟩⟩⟩⟩⟩⟩⟩⟩⟩⟩⟩⟩⟩⟩⟩⟩⟩⟩⟩⟩⟩⟩⟩⟩⟩⟩⟩⟩⟩⟩⟩⟩⟩⟩⟩⟩⟩⟩⟩⟩⟩⟩⟩⟩⟩⟩⟩⟩⟩⟩⟩⟩⟩⟩⟩⟩⟩⟩⟩⟩⟩⟩⟩⟩⟩⟩⟩⟩⟩⟩⟩⟩⟩⟩⟩⟩⟩⟩⟩
def okK (q : Nat × Nat × Int32) : Prop := Cond.constant (cn q.1) q.2.1 q.2.2 ∈ gw
theorem okK0 : okK (9, 72, -1000000002) := gw_in (i := 356) (by decide +kernel) rfl
theorem okK1 : okK (9, 77, -1000000004) := gw_in (i := 361) (by decide +kernel) rfl
theorem okK2 : okK (9, 150, -1000000001) := gw_in (i := 476) (by decide +kernel) rfl
theorem okK3 : okK (9, 180, -1000000003) := gw_in (i := 495) (by decide +kernel) rfl
theorem okK4 : okK (9, 181, 90000) := gw_in (i := 496) (by decide +kernel) rfl
theorem okK5 : okK (7, 59, 999999) := gw_in (i := 530) (by decide +kernel) rfl
theorem okK6 : okK (12, 265, 1431655765) := gw_in (i := 535) (by decide +kernel) rfl
theorem okK7 : okK (12, 266, 858993459) := gw_in (i := 536) (by decide +kernel) rfl
theorem okK8 : okK (12, 267, 252645135) := gw_in (i := 537) (by decide +kernel) rfl
theorem okK9 : okK (3, 19, 65536) := gw_in (i := 573) (by decide +kernel) rfl
theorem okK10 : okK (10, 96, -1000000002) := gw_in (i := 898) (by decide +kernel) rfl
theorem okK11 : okK (10, 100, -1000000004) := gw_in (i := 899) (by decide +kernel) rfl
theorem okK12 : okK (10, 172, -1000000001) := gw_in (i := 958) (by decide +kernel) rfl
theorem okK13 : okK (10, 205, -1000000003) := gw_in (i := 975) (by decide +kernel) rfl
theorem okK14 : okK (10, 206, 90000) := gw_in (i := 976) (by decide +kernel) rfl
theorem okK15 : okK (10, 194, 999999) := gw_in (i := 1001) (by decide +kernel) rfl
theorem okK16 : okK (10, 228, 65536) := gw_in (i := 1033) (by decide +kernel) rfl
theorem okK17 : okK (10, 251, 1000000) := gw_in (i := 1066) (by decide +kernel) rfl
theorem klt_ok : ∀ q ∈ klt, okK q := List.forall_mem_cons.mpr ⟨okK0, List.forall_mem_cons.mpr ⟨okK1, List.forall_mem_cons.mpr ⟨okK2, List.forall_mem_cons.mpr ⟨okK3, List.forall_mem_cons.mpr ⟨okK4, List.forall_mem_cons.mpr ⟨okK5, List.forall_mem_cons.mpr ⟨okK6, List.forall_mem_cons.mpr ⟨okK7, List.forall_mem_cons.mpr ⟨okK8, List.forall_mem_cons.mpr ⟨okK9, List.forall_mem_cons.mpr ⟨okK10, List.forall_mem_cons.mpr ⟨okK11, List.forall_mem_cons.mpr ⟨okK12, List.forall_mem_cons.mpr ⟨okK13, List.forall_mem_cons.mpr ⟨okK14, List.forall_mem_cons.mpr ⟨okK15, List.forall_mem_cons.mpr ⟨okK16, List.forall_mem_cons.mpr ⟨okK17, fun _ h => absurd h List.not_mem_nil⟩⟩⟩⟩⟩⟩⟩⟩⟩⟩⟩⟩⟩⟩⟩⟩⟩⟩
def okL (q : Nat × Nat × Int64) : Prop := Cond.constantLong (cn q.1) q.2.1 q.2.2 ∈ gw
theorem okL0 : okL (3, 13, 1103515245) := gw_in (i := 570) (by decide +kernel) rfl
theorem okL1 : okL (3, 15, 12345) := gw_in (i := 571) (by decide +kernel) rfl
theorem okL2 : okL (3, 17, 2147483647) := gw_in (i := 572) (by decide +kernel) rfl
theorem okL3 : okL (9, 243, 1000000000) := gw_in (i := 671) (by decide +kernel) rfl
theorem okL4 : okL (9, 245, 100) := gw_in (i := 672) (by decide +kernel) rfl
theorem okL5 : okL (10, 94, 255) := gw_in (i := 894) (by decide +kernel) rfl
theorem okL6 : okL (10, 108, 48) := gw_in (i := 928) (by decide +kernel) rfl
theorem okL7 : okL (10, 110, 57) := gw_in (i := 929) (by decide +kernel) rfl
theorem okL8 : okL (10, 214, 60) := gw_in (i := 1021) (by decide +kernel) rfl
theorem okL9 : okL (10, 222, 1103515245) := gw_in (i := 1030) (by decide +kernel) rfl
theorem okL10 : okL (10, 224, 12345) := gw_in (i := 1031) (by decide +kernel) rfl
theorem okL11 : okL (10, 226, 2147483648) := gw_in (i := 1032) (by decide +kernel) rfl
theorem okL12 : okL (10, 261, 1000) := gw_in (i := 1095) (by decide +kernel) rfl
theorem okL13 : okL (10, 263, 100) := gw_in (i := 1104) (by decide +kernel) rfl
theorem okL14 : okL (10, 265, 1000000000) := gw_in (i := 1105) (by decide +kernel) rfl
theorem okL15 : okL (10, 273, 199) := gw_in (i := 1130) (by decide +kernel) rfl
theorem kLt_ok : ∀ q ∈ kLt, okL q := List.forall_mem_cons.mpr ⟨okL0, List.forall_mem_cons.mpr ⟨okL1, List.forall_mem_cons.mpr ⟨okL2, List.forall_mem_cons.mpr ⟨okL3, List.forall_mem_cons.mpr ⟨okL4, List.forall_mem_cons.mpr ⟨okL5, List.forall_mem_cons.mpr ⟨okL6, List.forall_mem_cons.mpr ⟨okL7, List.forall_mem_cons.mpr ⟨okL8, List.forall_mem_cons.mpr ⟨okL9, List.forall_mem_cons.mpr ⟨okL10, List.forall_mem_cons.mpr ⟨okL11, List.forall_mem_cons.mpr ⟨okL12, List.forall_mem_cons.mpr ⟨okL13, List.forall_mem_cons.mpr ⟨okL14, List.forall_mem_cons.mpr ⟨okL15, fun _ h => absurd h List.not_mem_nil⟩⟩⟩⟩⟩⟩⟩⟩⟩⟩⟩⟩⟩⟩⟩⟩
abbrev aM : Type := MethodName × ByteArray × Nat × Option FieldType × Nat × Nat × Bool
def okM (q : aM) : Prop := (plainName q.1.cls = true ∧ q.1.cls ≠ "java/lang/invoke/MethodHandle" ∧ q.1.cls ≠ "java/lang/invoke/VarHandle" ∧ (parseMethodDescriptor q.1.desc).map (fun d => d.parameters.length) = some q.2.2.2.2.1) ∧ q.1.cls = cn q.2.2.2.2.2.1 ∧ q.2.2.1 ≤ 21 ∧ Cond.code q.1 q.2.1 q.2.2.1 q.2.2.2.1 ∈ gw ∧ Cond.initialized q.1.cls ∈ gw ∧ (if q.2.2.2.2.2.2 = true then Cond.static q.1 ∈ gw else Cond.instanceMethod q.1 ∈ gw ∧ Cond.selects q.1.cls q.1 q.1 ∈ gw)
set_option maxRecDepth 100000 in
theorem okM0 : okM (yX0_clear, cX0_clear, 2, none, 0, 0, false) := ⟨⟨by decide +kernel, by decide +kernel, by decide +kernel, by decide +kernel⟩, rfl, Nat.le_of_ble_eq_true rfl, gw_in (i := 451) rfl rfl, gw_in (i := 54) (by decide +kernel) rfl, ⟨gw_in (i := 449) (by decide +kernel) rfl, gw_in (i := 450) (by decide +kernel) rfl⟩⟩
set_option maxRecDepth 100000 in
theorem okM1 : okM (yX0_hasPlace, cX0_hasPlace, 2, (some .boolean), 1, 0, false) := ⟨⟨by decide +kernel, by decide +kernel, by decide +kernel, by decide +kernel⟩, rfl, Nat.le_of_ble_eq_true rfl, gw_in (i := 748) rfl rfl, gw_in (i := 54) (by decide +kernel) rfl, ⟨gw_in (i := 746) (by decide +kernel) rfl, gw_in (i := 747) (by decide +kernel) rfl⟩⟩
set_option maxRecDepth 100000 in
theorem okM2 : okM (yX0_store, cX0_store, 4, none, 3, 0, false) := ⟨⟨by decide +kernel, by decide +kernel, by decide +kernel, by decide +kernel⟩, rfl, Nat.le_of_ble_eq_true rfl, gw_in (i := 752) rfl rfl, gw_in (i := 54) (by decide +kernel) rfl, ⟨gw_in (i := 750) (by decide +kernel) rfl, gw_in (i := 751) (by decide +kernel) rfl⟩⟩
set_option maxRecDepth 100000 in
theorem okM3 : okM (yX0_load, cX0_load, 4, (some .boolean), 3, 0, false) := ⟨⟨by decide +kernel, by decide +kernel, by decide +kernel, by decide +kernel⟩, rfl, Nat.le_of_ble_eq_true rfl, gw_in (i := 762) rfl rfl, gw_in (i := 54) (by decide +kernel) rfl, ⟨gw_in (i := 760) (by decide +kernel) rfl, gw_in (i := 761) (by decide +kernel) rfl⟩⟩
set_option maxRecDepth 100000 in
theorem okM4 : okM (yX1_clear, cX1_clear, 1, none, 0, 1, false) := ⟨⟨by decide +kernel, by decide +kernel, by decide +kernel, by decide +kernel⟩, rfl, Nat.le_of_ble_eq_true rfl, gw_in (i := 459) rfl rfl, gw_in (i := 58) (by decide +kernel) rfl, ⟨gw_in (i := 457) (by decide +kernel) rfl, gw_in (i := 458) (by decide +kernel) rfl⟩⟩
set_option maxRecDepth 100000 in
theorem okM5 : okM (yX1_append, cX1_append, 3, (some .boolean), 2, 1, false) := ⟨⟨by decide +kernel, by decide +kernel, by decide +kernel, by decide +kernel⟩, rfl, Nat.le_of_ble_eq_true rfl, gw_in (i := 724) rfl rfl, gw_in (i := 58) (by decide +kernel) rfl, ⟨gw_in (i := 722) (by decide +kernel) rfl, gw_in (i := 723) (by decide +kernel) rfl⟩⟩
set_option maxRecDepth 100000 in
theorem okM6 : okM (yX1_firstWrong, cX1_firstWrong, 4, (some .int), 1, 1, false) := ⟨⟨by decide +kernel, by decide +kernel, by decide +kernel, by decide +kernel⟩, rfl, Nat.le_of_ble_eq_true rfl, gw_in (i := 736) rfl rfl, gw_in (i := 58) (by decide +kernel) rfl, ⟨gw_in (i := 734) (by decide +kernel) rfl, gw_in (i := 735) (by decide +kernel) rfl⟩⟩
set_option maxRecDepth 100000 in
theorem okM7 : okM (yX2_clear, cX2_clear, 1, none, 0, 2, false) := ⟨⟨by decide +kernel, by decide +kernel, by decide +kernel, by decide +kernel⟩, rfl, Nat.le_of_ble_eq_true rfl, gw_in (i := 373) rfl rfl, gw_in (i := 51) (by decide +kernel) rfl, ⟨gw_in (i := 371) (by decide +kernel) rfl, gw_in (i := 372) (by decide +kernel) rfl⟩⟩
set_option maxRecDepth 100000 in
theorem okM8 : okM (yX2_copyFrom, cX2_copyFrom, 2, none, 1, 2, false) := ⟨⟨by decide +kernel, by decide +kernel, by decide +kernel, by decide +kernel⟩, rfl, Nat.le_of_ble_eq_true rfl, gw_in (i := 436) rfl rfl, gw_in (i := 51) (by decide +kernel) rfl, ⟨gw_in (i := 434) (by decide +kernel) rfl, gw_in (i := 435) (by decide +kernel) rfl⟩⟩
set_option maxRecDepth 100000 in
theorem okM9 : okM (yX2_stands, cX2_stands, 1, (some .boolean), 0, 2, false) := ⟨⟨by decide +kernel, by decide +kernel, by decide +kernel, by decide +kernel⟩, rfl, Nat.le_of_ble_eq_true rfl, gw_in (i := 393) rfl rfl, gw_in (i := 51) (by decide +kernel) rfl, ⟨gw_in (i := 391) (by decide +kernel) rfl, gw_in (i := 392) (by decide +kernel) rfl⟩⟩
set_option maxRecDepth 100000 in
theorem okM10 : okM (yX2_hasWatcher, cX2_hasWatcher, 2, (some .boolean), 1, 2, false) := ⟨⟨by decide +kernel, by decide +kernel, by decide +kernel, by decide +kernel⟩, rfl, Nat.le_of_ble_eq_true rfl, gw_in (i := 475) rfl rfl, gw_in (i := 51) (by decide +kernel) rfl, ⟨gw_in (i := 473) (by decide +kernel) rfl, gw_in (i := 474) (by decide +kernel) rfl⟩⟩
set_option maxRecDepth 100000 in
theorem okM11 : okM (yX2_hasSleeper, cX2_hasSleeper, 2, (some .boolean), 1, 2, false) := ⟨⟨by decide +kernel, by decide +kernel, by decide +kernel, by decide +kernel⟩, rfl, Nat.le_of_ble_eq_true rfl, gw_in (i := 484) rfl rfl, gw_in (i := 51) (by decide +kernel) rfl, ⟨gw_in (i := 482) (by decide +kernel) rfl, gw_in (i := 483) (by decide +kernel) rfl⟩⟩
set_option maxRecDepth 100000 in
theorem okM12 : okM (yX2_everybody, cX2_everybody, 1, (some .int), 0, 2, false) := ⟨⟨by decide +kernel, by decide +kernel, by decide +kernel, by decide +kernel⟩, rfl, Nat.le_of_ble_eq_true rfl, gw_in (i := 428) rfl rfl, gw_in (i := 51) (by decide +kernel) rfl, ⟨gw_in (i := 426) (by decide +kernel) rfl, gw_in (i := 427) (by decide +kernel) rfl⟩⟩
set_option maxRecDepth 100000 in
theorem okM13 : okM (yX2_hasAll, cX2_hasAll, 2, (some .boolean), 1, 2, false) := ⟨⟨by decide +kernel, by decide +kernel, by decide +kernel, by decide +kernel⟩, rfl, Nat.le_of_ble_eq_true rfl, gw_in (i := 492) rfl rfl, gw_in (i := 51) (by decide +kernel) rfl, ⟨gw_in (i := 490) (by decide +kernel) rfl, gw_in (i := 491) (by decide +kernel) rfl⟩⟩
set_option maxRecDepth 100000 in
theorem okM14 : okM (yX2_addWatcher, cX2_addWatcher, 5, none, 4, 2, false) := ⟨⟨by decide +kernel, by decide +kernel, by decide +kernel, by decide +kernel⟩, rfl, Nat.le_of_ble_eq_true rfl, gw_in (i := 420) rfl rfl, gw_in (i := 51) (by decide +kernel) rfl, ⟨gw_in (i := 418) (by decide +kernel) rfl, gw_in (i := 419) (by decide +kernel) rfl⟩⟩
set_option maxRecDepth 100000 in
theorem okM15 : okM (yX2_addSleeper, cX2_addSleeper, 2, none, 1, 2, false) := ⟨⟨by decide +kernel, by decide +kernel, by decide +kernel, by decide +kernel⟩, rfl, Nat.le_of_ble_eq_true rfl, gw_in (i := 432) rfl rfl, gw_in (i := 51) (by decide +kernel) rfl, ⟨gw_in (i := 430) (by decide +kernel) rfl, gw_in (i := 431) (by decide +kernel) rfl⟩⟩
set_option maxRecDepth 100000 in
theorem okM16 : okM (yX2_spendHour, cX2_spendHour, 7, (some .int), 3, 2, false) := ⟨⟨by decide +kernel, by decide +kernel, by decide +kernel, by decide +kernel⟩, rfl, Nat.le_of_ble_eq_true rfl, gw_in (i := 516) rfl rfl, gw_in (i := 51) (by decide +kernel) rfl, ⟨gw_in (i := 514) (by decide +kernel) rfl, gw_in (i := 515) (by decide +kernel) rfl⟩⟩
set_option maxRecDepth 100000 in
theorem okM17 : okM (yX2_sitsUp, cX2_sitsUp, 6, (some .boolean), 3, 2, false) := ⟨⟨by decide +kernel, by decide +kernel, by decide +kernel, by decide +kernel⟩, rfl, Nat.le_of_ble_eq_true rfl, gw_in (i := 528) rfl rfl, gw_in (i := 51) (by decide +kernel) rfl, ⟨gw_in (i := 526) (by decide +kernel) rfl, gw_in (i := 527) (by decide +kernel) rfl⟩⟩
set_option maxRecDepth 100000 in
theorem okM18 : okM (yX2_allSittingUp, cX2_allSittingUp, 5, (some .int), 2, 2, false) := ⟨⟨by decide +kernel, by decide +kernel, by decide +kernel, by decide +kernel⟩, rfl, Nat.le_of_ble_eq_true rfl, gw_in (i := 524) rfl rfl, gw_in (i := 51) (by decide +kernel) rfl, ⟨gw_in (i := 522) (by decide +kernel) rfl, gw_in (i := 523) (by decide +kernel) rfl⟩⟩
set_option maxRecDepth 100000 in
theorem okM19 : okM (yX3_draw, cX3_draw, 2, (some .int), 1, 3, false) := ⟨⟨by decide +kernel, by decide +kernel, by decide +kernel, by decide +kernel⟩, rfl, Nat.le_of_ble_eq_true rfl, gw_in (i := 569) rfl rfl, gw_in (i := 55) (by decide +kernel) rfl, ⟨gw_in (i := 567) (by decide +kernel) rfl, gw_in (i := 568) (by decide +kernel) rfl⟩⟩
set_option maxRecDepth 100000 in
theorem okM20 : okM (yX4_clear, cX4_clear, 1, none, 0, 4, false) := ⟨⟨by decide +kernel, by decide +kernel, by decide +kernel, by decide +kernel⟩, rfl, Nat.le_of_ble_eq_true rfl, gw_in (i := 447) rfl rfl, gw_in (i := 53) (by decide +kernel) rfl, ⟨gw_in (i := 445) (by decide +kernel) rfl, gw_in (i := 446) (by decide +kernel) rfl⟩⟩
set_option maxRecDepth 100000 in
theorem okM21 : okM (yX4_remember, cX4_remember, 2, none, 1, 4, false) := ⟨⟨by decide +kernel, by decide +kernel, by decide +kernel, by decide +kernel⟩, rfl, Nat.le_of_ble_eq_true rfl, gw_in (i := 500) rfl rfl, gw_in (i := 53) (by decide +kernel) rfl, ⟨gw_in (i := 498) (by decide +kernel) rfl, gw_in (i := 499) (by decide +kernel) rfl⟩⟩
set_option maxRecDepth 100000 in
theorem okM22 : okM (yX4_recall, cX4_recall, 3, (some .boolean), 1, 4, false) := ⟨⟨by decide +kernel, by decide +kernel, by decide +kernel, by decide +kernel⟩, rfl, Nat.le_of_ble_eq_true rfl, gw_in (i := 581) rfl rfl, gw_in (i := 53) (by decide +kernel) rfl, ⟨gw_in (i := 579) (by decide +kernel) rfl, gw_in (i := 580) (by decide +kernel) rfl⟩⟩
set_option maxRecDepth 100000 in
theorem okM23 : okM (yX5_append, cX5_append, 2, (some .boolean), 1, 5, false) := ⟨⟨by decide +kernel, by decide +kernel, by decide +kernel, by decide +kernel⟩, rfl, Nat.le_of_ble_eq_true rfl, gw_in (i := 360) rfl rfl, gw_in (i := 50) (by decide +kernel) rfl, ⟨gw_in (i := 358) (by decide +kernel) rfl, gw_in (i := 359) (by decide +kernel) rfl⟩⟩
set_option maxRecDepth 100000 in
theorem okM24 : okM (yX5_readText, cX5_readText, 2, (some .int), 0, 5, false) := ⟨⟨by decide +kernel, by decide +kernel, by decide +kernel, by decide +kernel⟩, rfl, Nat.le_of_ble_eq_true rfl, gw_in (i := 369) rfl rfl, gw_in (i := 50) (by decide +kernel) rfl, ⟨gw_in (i := 367) (by decide +kernel) rfl, gw_in (i := 368) (by decide +kernel) rfl⟩⟩
set_option maxRecDepth 100000 in
theorem okM25 : okM (yX5_readClause, cX5_readClause, 3, none, 0, 5, false) := ⟨⟨by decide +kernel, by decide +kernel, by decide +kernel, by decide +kernel⟩, rfl, Nat.le_of_ble_eq_true rfl, gw_in (i := 385) rfl rfl, gw_in (i := 50) (by decide +kernel) rfl, ⟨gw_in (i := 384) (by decide +kernel) rfl, gw_in (i := 2) (by decide +kernel) rfl⟩⟩
set_option maxRecDepth 100000 in
theorem okM26 : okM (yX5_faultOfWord, cX5_faultOfWord, 4, (some .int), 1, 5, false) := ⟨⟨by decide +kernel, by decide +kernel, by decide +kernel, by decide +kernel⟩, rfl, Nat.le_of_ble_eq_true rfl, gw_in (i := 389) rfl rfl, gw_in (i := 50) (by decide +kernel) rfl, ⟨gw_in (i := 388) (by decide +kernel) rfl, gw_in (i := 3) (by decide +kernel) rfl⟩⟩
set_option maxRecDepth 100000 in
theorem okM27 : okM (yX5_readNight, cX5_readNight, 1, none, 0, 5, false) := ⟨⟨by decide +kernel, by decide +kernel, by decide +kernel, by decide +kernel⟩, rfl, Nat.le_of_ble_eq_true rfl, gw_in (i := 401) rfl rfl, gw_in (i := 50) (by decide +kernel) rfl, ⟨gw_in (i := 400) (by decide +kernel) rfl, gw_in (i := 5) (by decide +kernel) rfl⟩⟩
set_option maxRecDepth 100000 in
theorem okM28 : okM (yX5_readWatcher, cX5_readWatcher, 5, none, 0, 5, false) := ⟨⟨by decide +kernel, by decide +kernel, by decide +kernel, by decide +kernel⟩, rfl, Nat.le_of_ble_eq_true rfl, gw_in (i := 416) rfl rfl, gw_in (i := 50) (by decide +kernel) rfl, ⟨gw_in (i := 415) (by decide +kernel) rfl, gw_in (i := 8) (by decide +kernel) rfl⟩⟩
set_option maxRecDepth 100000 in
theorem okM29 : okM (yX5_readSleeper, cX5_readSleeper, 2, none, 0, 5, false) := ⟨⟨by decide +kernel, by decide +kernel, by decide +kernel, by decide +kernel⟩, rfl, Nat.le_of_ble_eq_true rfl, gw_in (i := 424) rfl rfl, gw_in (i := 50) (by decide +kernel) rfl, ⟨gw_in (i := 423) (by decide +kernel) rfl, gw_in (i := 9) (by decide +kernel) rfl⟩⟩
set_option maxRecDepth 100000 in
theorem okM30 : okM (yX5_readNumber, cX5_readNumber, 6, (some .int), 2, 5, false) := ⟨⟨by decide +kernel, by decide +kernel, by decide +kernel, by decide +kernel⟩, rfl, Nat.le_of_ble_eq_true rfl, gw_in (i := 405) rfl rfl, gw_in (i := 50) (by decide +kernel) rfl, ⟨gw_in (i := 404) (by decide +kernel) rfl, gw_in (i := 6) (by decide +kernel) rfl⟩⟩
set_option maxRecDepth 100000 in
theorem okM31 : okM (yX5_readEnd, cX5_readEnd, 1, none, 0, 5, false) := ⟨⟨by decide +kernel, by decide +kernel, by decide +kernel, by decide +kernel⟩, rfl, Nat.le_of_ble_eq_true rfl, gw_in (i := 412) rfl rfl, gw_in (i := 50) (by decide +kernel) rfl, ⟨gw_in (i := 411) (by decide +kernel) rfl, gw_in (i := 7) (by decide +kernel) rfl⟩⟩
set_option maxRecDepth 100000 in
theorem okM32 : okM (yX5_skipBlanks, cX5_skipBlanks, 1, none, 0, 5, false) := ⟨⟨by decide +kernel, by decide +kernel, by decide +kernel, by decide +kernel⟩, rfl, Nat.le_of_ble_eq_true rfl, gw_in (i := 377) rfl rfl, gw_in (i := 50) (by decide +kernel) rfl, ⟨gw_in (i := 376) (by decide +kernel) rfl, gw_in (i := 0) (by decide +kernel) rfl⟩⟩
set_option maxRecDepth 100000 in
theorem okM33 : okM (yX5_letterHere, cX5_letterHere, 1, (some .int), 0, 5, false) := ⟨⟨by decide +kernel, by decide +kernel, by decide +kernel, by decide +kernel⟩, rfl, Nat.le_of_ble_eq_true rfl, gw_in (i := 381) rfl rfl, gw_in (i := 50) (by decide +kernel) rfl, ⟨gw_in (i := 380) (by decide +kernel) rfl, gw_in (i := 1) (by decide +kernel) rfl⟩⟩
set_option maxRecDepth 100000 in
theorem okM34 : okM (yX5_blame, cX5_blame, 3, none, 2, 5, false) := ⟨⟨by decide +kernel, by decide +kernel, by decide +kernel, by decide +kernel⟩, rfl, Nat.le_of_ble_eq_true rfl, gw_in (i := 397) rfl rfl, gw_in (i := 50) (by decide +kernel) rfl, ⟨gw_in (i := 396) (by decide +kernel) rfl, gw_in (i := 4) (by decide +kernel) rfl⟩⟩
set_option maxRecDepth 100000 in
theorem okM35 : okM (yX5_isFigure, cX5_isFigure, 1, (some .boolean), 1, 5, true) := ⟨⟨by decide +kernel, by decide +kernel, by decide +kernel, by decide +kernel⟩, rfl, Nat.le_of_ble_eq_true rfl, gw_in (i := 408) rfl rfl, gw_in (i := 50) (by decide +kernel) rfl, gw_in (i := 407) (by decide +kernel) rfl⟩
set_option maxRecDepth 100000 in
theorem okM36 : okM (yX6_clear, cX6_clear, 1, none, 0, 6, false) := ⟨⟨by decide +kernel, by decide +kernel, by decide +kernel, by decide +kernel⟩, rfl, Nat.le_of_ble_eq_true rfl, gw_in (i := 455) rfl rfl, gw_in (i := 57) (by decide +kernel) rfl, ⟨gw_in (i := 453) (by decide +kernel) rfl, gw_in (i := 454) (by decide +kernel) rfl⟩⟩
set_option maxRecDepth 100000 in
theorem okM37 : okM (yX6_append, cX6_append, 3, (some .boolean), 2, 6, false) := ⟨⟨by decide +kernel, by decide +kernel, by decide +kernel, by decide +kernel⟩, rfl, Nat.le_of_ble_eq_true rfl, gw_in (i := 680) rfl rfl, gw_in (i := 57) (by decide +kernel) rfl, ⟨gw_in (i := 678) (by decide +kernel) rfl, gw_in (i := 679) (by decide +kernel) rfl⟩⟩
set_option maxRecDepth 100000 in
theorem okM38 : okM (yX6_fits, cX6_fits, 5, (some .boolean), 3, 6, false) := ⟨⟨by decide +kernel, by decide +kernel, by decide +kernel, by decide +kernel⟩, rfl, Nat.le_of_ble_eq_true rfl, gw_in (i := 692) rfl rfl, gw_in (i := 57) (by decide +kernel) rfl, ⟨gw_in (i := 691) (by decide +kernel) rfl, gw_in (i := 18) (by decide +kernel) rfl⟩⟩
set_option maxRecDepth 100000 in
theorem okM39 : okM (yX6_countFitting, cX6_countFitting, 5, (some .int), 2, 6, false) := ⟨⟨by decide +kernel, by decide +kernel, by decide +kernel, by decide +kernel⟩, rfl, Nat.le_of_ble_eq_true rfl, gw_in (i := 688) rfl rfl, gw_in (i := 57) (by decide +kernel) rfl, ⟨gw_in (i := 686) (by decide +kernel) rfl, gw_in (i := 687) (by decide +kernel) rfl⟩⟩
set_option maxRecDepth 100000 in
theorem okM40 : okM (yX6_inAllFitting, cX6_inAllFitting, 5, (some .int), 2, 6, false) := ⟨⟨by decide +kernel, by decide +kernel, by decide +kernel, by decide +kernel⟩, rfl, Nat.le_of_ble_eq_true rfl, gw_in (i := 697) rfl rfl, gw_in (i := 57) (by decide +kernel) rfl, ⟨gw_in (i := 695) (by decide +kernel) rfl, gw_in (i := 696) (by decide +kernel) rfl⟩⟩
set_option maxRecDepth 100000 in
theorem okM41 : okM (yX6_fittingAt, cX6_fittingAt, 7, (some .int), 3, 6, false) := ⟨⟨by decide +kernel, by decide +kernel, by decide +kernel, by decide +kernel⟩, rfl, Nat.le_of_ble_eq_true rfl, gw_in (i := 702) rfl rfl, gw_in (i := 57) (by decide +kernel) rfl, ⟨gw_in (i := 700) (by decide +kernel) rfl, gw_in (i := 701) (by decide +kernel) rfl⟩⟩
set_option maxRecDepth 100000 in
theorem okM42 : okM (yX6_bestToAsk, cX6_bestToAsk, 7, (some .int), 2, 6, false) := ⟨⟨by decide +kernel, by decide +kernel, by decide +kernel, by decide +kernel⟩, rfl, Nat.le_of_ble_eq_true rfl, gw_in (i := 711) rfl rfl, gw_in (i := 57) (by decide +kernel) rfl, ⟨gw_in (i := 709) (by decide +kernel) rfl, gw_in (i := 710) (by decide +kernel) rfl⟩⟩
set_option maxRecDepth 100000 in
theorem okM43 : okM (yX6_greaterPart, cX6_greaterPart, 7, (some .int), 3, 6, false) := ⟨⟨by decide +kernel, by decide +kernel, by decide +kernel, by decide +kernel⟩, rfl, Nat.le_of_ble_eq_true rfl, gw_in (i := 715) rfl rfl, gw_in (i := 57) (by decide +kernel) rfl, ⟨gw_in (i := 714) (by decide +kernel) rfl, gw_in (i := 19) (by decide +kernel) rfl⟩⟩
set_option maxRecDepth 100000 in
theorem okM44 : okM (yX7_begin, cX7_begin, 3, none, 1, 7, false) := ⟨⟨by decide +kernel, by decide +kernel, by decide +kernel, by decide +kernel⟩, rfl, Nat.le_of_ble_eq_true rfl, gw_in (i := 443) rfl rfl, gw_in (i := 52) (by decide +kernel) rfl, ⟨gw_in (i := 441) (by decide +kernel) rfl, gw_in (i := 442) (by decide +kernel) rfl⟩⟩
set_option maxRecDepth 100000 in
theorem okM45 : okM (yX7_copyFrom, cX7_copyFrom, 2, none, 1, 7, false) := ⟨⟨by decide +kernel, by decide +kernel, by decide +kernel, by decide +kernel⟩, rfl, Nat.le_of_ble_eq_true rfl, gw_in (i := 504) rfl rfl, gw_in (i := 52) (by decide +kernel) rfl, ⟨gw_in (i := 502) (by decide +kernel) rfl, gw_in (i := 503) (by decide +kernel) rfl⟩⟩
set_option maxRecDepth 100000 in
theorem okM46 : okM (yX7_passWatched, cX7_passWatched, 6, none, 3, 7, false) := ⟨⟨by decide +kernel, by decide +kernel, by decide +kernel, by decide +kernel⟩, rfl, Nat.le_of_ble_eq_true rfl, gw_in (i := 512) rfl rfl, gw_in (i := 52) (by decide +kernel) rfl, ⟨gw_in (i := 510) (by decide +kernel) rfl, gw_in (i := 511) (by decide +kernel) rfl⟩⟩
set_option maxRecDepth 100000 in
theorem okM47 : okM (yX7_passResting, cX7_passResting, 2, none, 1, 7, false) := ⟨⟨by decide +kernel, by decide +kernel, by decide +kernel, by decide +kernel⟩, rfl, Nat.le_of_ble_eq_true rfl, gw_in (i := 561) rfl rfl, gw_in (i := 52) (by decide +kernel) rfl, ⟨gw_in (i := 559) (by decide +kernel) rfl, gw_in (i := 560) (by decide +kernel) rfl⟩⟩
set_option maxRecDepth 100000 in
theorem okM48 : okM (yX7_endHour, cX7_endHour, 2, none, 1, 7, false) := ⟨⟨by decide +kernel, by decide +kernel, by decide +kernel, by decide +kernel⟩, rfl, Nat.le_of_ble_eq_true rfl, gw_in (i := 541) rfl rfl, gw_in (i := 52) (by decide +kernel) rfl, ⟨gw_in (i := 540) (by decide +kernel) rfl, gw_in (i := 10) (by decide +kernel) rfl⟩⟩
set_option maxRecDepth 100000 in
theorem okM49 : okM (yX7_partOf, cX7_partOf, 6, (some .int), 2, 7, false) := ⟨⟨by decide +kernel, by decide +kernel, by decide +kernel, by decide +kernel⟩, rfl, Nat.le_of_ble_eq_true rfl, gw_in (i := 661) rfl rfl, gw_in (i := 52) (by decide +kernel) rfl, ⟨gw_in (i := 659) (by decide +kernel) rfl, gw_in (i := 660) (by decide +kernel) rfl⟩⟩
set_option maxRecDepth 100000 in
theorem okM50 : okM (yX8_layRow, cX8_layRow, 2, none, 1, 8, false) := ⟨⟨by decide +kernel, by decide +kernel, by decide +kernel, by decide +kernel⟩, rfl, Nat.le_of_ble_eq_true rfl, gw_in (i := 593) rfl rfl, gw_in (i := 56) (by decide +kernel) rfl, ⟨gw_in (i := 592) (by decide +kernel) rfl, gw_in (i := 12) (by decide +kernel) rfl⟩⟩
set_option maxRecDepth 100000 in
theorem okM51 : okM (yX8_findWatches, cX8_findWatches, 3, (some .boolean), 2, 8, false) := ⟨⟨by decide +kernel, by decide +kernel, by decide +kernel, by decide +kernel⟩, rfl, Nat.le_of_ble_eq_true rfl, gw_in (i := 589) rfl rfl, gw_in (i := 56) (by decide +kernel) rfl, ⟨gw_in (i := 587) (by decide +kernel) rfl, gw_in (i := 588) (by decide +kernel) rfl⟩⟩
set_option maxRecDepth 100000 in
theorem okM52 : okM (yX8_chooseFrom, cX8_chooseFrom, 6, none, 2, 8, false) := ⟨⟨by decide +kernel, by decide +kernel, by decide +kernel, by decide +kernel⟩, rfl, Nat.le_of_ble_eq_true rfl, gw_in (i := 598) rfl rfl, gw_in (i := 56) (by decide +kernel) rfl, ⟨gw_in (i := 597) (by decide +kernel) rfl, gw_in (i := 13) (by decide +kernel) rfl⟩⟩
set_option maxRecDepth 100000 in
theorem okM53 : okM (yX8_leastPossibleEnd, cX8_leastPossibleEnd, 6, (some .int), 3, 8, false) := ⟨⟨by decide +kernel, by decide +kernel, by decide +kernel, by decide +kernel⟩, rfl, Nat.le_of_ble_eq_true rfl, gw_in (i := 603) rfl rfl, gw_in (i := 56) (by decide +kernel) rfl, ⟨gw_in (i := 602) (by decide +kernel) rfl, gw_in (i := 14) (by decide +kernel) rfl⟩⟩
set_option maxRecDepth 100000 in
theorem okM54 : okM (yX8_takeChosen, cX8_takeChosen, 2, none, 1, 8, false) := ⟨⟨by decide +kernel, by decide +kernel, by decide +kernel, by decide +kernel⟩, rfl, Nat.le_of_ble_eq_true rfl, gw_in (i := 608) rfl rfl, gw_in (i := 56) (by decide +kernel) rfl, ⟨gw_in (i := 607) (by decide +kernel) rfl, gw_in (i := 15) (by decide +kernel) rfl⟩⟩
set_option maxRecDepth 100000 in
theorem okM55 : okM (yX8_nodsWithBell, cX8_nodsWithBell, 4, (some .int), 3, 8, false) := ⟨⟨by decide +kernel, by decide +kernel, by decide +kernel, by decide +kernel⟩, rfl, Nat.le_of_ble_eq_true rfl, gw_in (i := 616) rfl rfl, gw_in (i := 56) (by decide +kernel) rfl, ⟨gw_in (i := 614) (by decide +kernel) rfl, gw_in (i := 615) (by decide +kernel) rfl⟩⟩
set_option maxRecDepth 100000 in
theorem okM56 : okM (yX8_nodsWithCoffee, cX8_nodsWithCoffee, 4, (some .int), 3, 8, false) := ⟨⟨by decide +kernel, by decide +kernel, by decide +kernel, by decide +kernel⟩, rfl, Nat.le_of_ble_eq_true rfl, gw_in (i := 630) rfl rfl, gw_in (i := 56) (by decide +kernel) rfl, ⟨gw_in (i := 628) (by decide +kernel) rfl, gw_in (i := 629) (by decide +kernel) rfl⟩⟩
set_option maxRecDepth 100000 in
theorem okM57 : okM (yX8_nodsOfAll, cX8_nodsOfAll, 5, (some .int), 2, 8, false) := ⟨⟨by decide +kernel, by decide +kernel, by decide +kernel, by decide +kernel⟩, rfl, Nat.le_of_ble_eq_true rfl, gw_in (i := 620) rfl rfl, gw_in (i := 56) (by decide +kernel) rfl, ⟨gw_in (i := 619) (by decide +kernel) rfl, gw_in (i := 16) (by decide +kernel) rfl⟩⟩
set_option maxRecDepth 100000 in
theorem okM58 : okM (yX8_nightsOf, cX8_nightsOf, 6, (some .int), 3, 8, false) := ⟨⟨by decide +kernel, by decide +kernel, by decide +kernel, by decide +kernel⟩, rfl, Nat.le_of_ble_eq_true rfl, gw_in (i := 639) rfl rfl, gw_in (i := 56) (by decide +kernel) rfl, ⟨gw_in (i := 637) (by decide +kernel) rfl, gw_in (i := 638) (by decide +kernel) rfl⟩⟩
set_option maxRecDepth 100000 in
theorem okM59 : okM (yX8_fewestHolding, cX8_fewestHolding, 5, (some .int), 2, 8, false) := ⟨⟨by decide +kernel, by decide +kernel, by decide +kernel, by decide +kernel⟩, rfl, Nat.le_of_ble_eq_true rfl, gw_in (i := 649) rfl rfl, gw_in (i := 56) (by decide +kernel) rfl, ⟨gw_in (i := 647) (by decide +kernel) rfl, gw_in (i := 648) (by decide +kernel) rfl⟩⟩
set_option maxRecDepth 100000 in
theorem okM60 : okM (yX8_holds, cX8_holds, 4, (some .boolean), 2, 8, false) := ⟨⟨by decide +kernel, by decide +kernel, by decide +kernel, by decide +kernel⟩, rfl, Nat.le_of_ble_eq_true rfl, gw_in (i := 653) rfl rfl, gw_in (i := 56) (by decide +kernel) rfl, ⟨gw_in (i := 652) (by decide +kernel) rfl, gw_in (i := 17) (by decide +kernel) rfl⟩⟩
set_option maxRecDepth 100000 in
theorem okM61 : okM (yX9_feed, cX9_feed, 2, (some .int), 1, 9, false) := ⟨⟨by decide +kernel, by decide +kernel, by decide +kernel, by decide +kernel⟩, rfl, Nat.le_of_ble_eq_true rfl, gw_in (i := 355) rfl rfl, gw_in (i := 49) (by decide +kernel) rfl, ⟨gw_in (i := 353) (by decide +kernel) rfl, gw_in (i := 354) (by decide +kernel) rfl⟩⟩
set_option maxRecDepth 100000 in
theorem okM62 : okM (yX9_contract, cX9_contract, 2, (some .int), 0, 9, false) := ⟨⟨by decide +kernel, by decide +kernel, by decide +kernel, by decide +kernel⟩, rfl, Nat.le_of_ble_eq_true rfl, gw_in (i := 365) rfl rfl, gw_in (i := 49) (by decide +kernel) rfl, ⟨gw_in (i := 363) (by decide +kernel) rfl, gw_in (i := 364) (by decide +kernel) rfl⟩⟩
set_option maxRecDepth 100000 in
theorem okM63 : okM (yX9_fault, cX9_fault, 1, (some .int), 0, 9, false) := ⟨⟨by decide +kernel, by decide +kernel, by decide +kernel, by decide +kernel⟩, rfl, Nat.le_of_ble_eq_true rfl, gw_in (i := 463) rfl rfl, gw_in (i := 49) (by decide +kernel) rfl, ⟨gw_in (i := 461) (by decide +kernel) rfl, gw_in (i := 462) (by decide +kernel) rfl⟩⟩
set_option maxRecDepth 100000 in
theorem okM64 : okM (yX9_told, cX9_told, 2, (some .int), 1, 9, false) := ⟨⟨by decide +kernel, by decide +kernel, by decide +kernel, by decide +kernel⟩, rfl, Nat.le_of_ble_eq_true rfl, gw_in (i := 467) rfl rfl, gw_in (i := 49) (by decide +kernel) rfl, ⟨gw_in (i := 465) (by decide +kernel) rfl, gw_in (i := 466) (by decide +kernel) rfl⟩⟩
set_option maxRecDepth 100000 in
theorem okM65 : okM (yX9_watcher, cX9_watcher, 3, (some .int), 2, 9, false) := ⟨⟨by decide +kernel, by decide +kernel, by decide +kernel, by decide +kernel⟩, rfl, Nat.le_of_ble_eq_true rfl, gw_in (i := 471) rfl rfl, gw_in (i := 49) (by decide +kernel) rfl, ⟨gw_in (i := 469) (by decide +kernel) rfl, gw_in (i := 470) (by decide +kernel) rfl⟩⟩
set_option maxRecDepth 100000 in
theorem okM66 : okM (yX9_sleeper, cX9_sleeper, 2, (some .int), 1, 9, false) := ⟨⟨by decide +kernel, by decide +kernel, by decide +kernel, by decide +kernel⟩, rfl, Nat.le_of_ble_eq_true rfl, gw_in (i := 480) rfl rfl, gw_in (i := 49) (by decide +kernel) rfl, ⟨gw_in (i := 478) (by decide +kernel) rfl, gw_in (i := 479) (by decide +kernel) rfl⟩⟩
set_option maxRecDepth 100000 in
theorem okM67 : okM (yX9_hour, cX9_hour, 3, (some .int), 2, 9, false) := ⟨⟨by decide +kernel, by decide +kernel, by decide +kernel, by decide +kernel⟩, rfl, Nat.le_of_ble_eq_true rfl, gw_in (i := 488) rfl rfl, gw_in (i := 49) (by decide +kernel) rfl, ⟨gw_in (i := 486) (by decide +kernel) rfl, gw_in (i := 487) (by decide +kernel) rfl⟩⟩
set_option maxRecDepth 100000 in
theorem okM68 : okM (yX9_coffee, cX9_coffee, 2, (some .int), 1, 9, false) := ⟨⟨by decide +kernel, by decide +kernel, by decide +kernel, by decide +kernel⟩, rfl, Nat.le_of_ble_eq_true rfl, gw_in (i := 545) rfl rfl, gw_in (i := 49) (by decide +kernel) rfl, ⟨gw_in (i := 543) (by decide +kernel) rfl, gw_in (i := 544) (by decide +kernel) rfl⟩⟩
set_option maxRecDepth 100000 in
theorem okM69 : okM (yX9_rest, cX9_rest, 4, (some .int), 1, 9, false) := ⟨⟨by decide +kernel, by decide +kernel, by decide +kernel, by decide +kernel⟩, rfl, Nat.le_of_ble_eq_true rfl, gw_in (i := 553) rfl rfl, gw_in (i := 49) (by decide +kernel) rfl, ⟨gw_in (i := 551) (by decide +kernel) rfl, gw_in (i := 552) (by decide +kernel) rfl⟩⟩
set_option maxRecDepth 100000 in
theorem okM70 : okM (yX9_drift, cX9_drift, 6, (some .int), 1, 9, false) := ⟨⟨by decide +kernel, by decide +kernel, by decide +kernel, by decide +kernel⟩, rfl, Nat.le_of_ble_eq_true rfl, gw_in (i := 565) rfl rfl, gw_in (i := 49) (by decide +kernel) rfl, ⟨gw_in (i := 563) (by decide +kernel) rfl, gw_in (i := 564) (by decide +kernel) rfl⟩⟩
set_option maxRecDepth 100000 in
theorem okM71 : okM (yX9_undo, cX9_undo, 1, (some .int), 0, 9, false) := ⟨⟨by decide +kernel, by decide +kernel, by decide +kernel, by decide +kernel⟩, rfl, Nat.le_of_ble_eq_true rfl, gw_in (i := 577) rfl rfl, gw_in (i := 49) (by decide +kernel) rfl, ⟨gw_in (i := 575) (by decide +kernel) rfl, gw_in (i := 576) (by decide +kernel) rfl⟩⟩
set_option maxRecDepth 100000 in
theorem okM72 : okM (yX9_watches, cX9_watches, 2, (some .int), 1, 9, false) := ⟨⟨by decide +kernel, by decide +kernel, by decide +kernel, by decide +kernel⟩, rfl, Nat.le_of_ble_eq_true rfl, gw_in (i := 585) rfl rfl, gw_in (i := 49) (by decide +kernel) rfl, ⟨gw_in (i := 583) (by decide +kernel) rfl, gw_in (i := 584) (by decide +kernel) rfl⟩⟩
set_option maxRecDepth 100000 in
theorem okM73 : okM (yX9_bellHour, cX9_bellHour, 6, (some .int), 1, 9, false) := ⟨⟨by decide +kernel, by decide +kernel, by decide +kernel, by decide +kernel⟩, rfl, Nat.le_of_ble_eq_true rfl, gw_in (i := 612) rfl rfl, gw_in (i := 49) (by decide +kernel) rfl, ⟨gw_in (i := 610) (by decide +kernel) rfl, gw_in (i := 611) (by decide +kernel) rfl⟩⟩
set_option maxRecDepth 100000 in
theorem okM74 : okM (yX9_coffeeFor, cX9_coffeeFor, 5, (some .int), 0, 9, false) := ⟨⟨by decide +kernel, by decide +kernel, by decide +kernel, by decide +kernel⟩, rfl, Nat.le_of_ble_eq_true rfl, gw_in (i := 626) rfl rfl, gw_in (i := 49) (by decide +kernel) rfl, ⟨gw_in (i := 624) (by decide +kernel) rfl, gw_in (i := 625) (by decide +kernel) rfl⟩⟩
set_option maxRecDepth 100000 in
theorem okM75 : okM (yX9_nights, cX9_nights, 2, (some .int), 1, 9, false) := ⟨⟨by decide +kernel, by decide +kernel, by decide +kernel, by decide +kernel⟩, rfl, Nat.le_of_ble_eq_true rfl, gw_in (i := 635) rfl rfl, gw_in (i := 49) (by decide +kernel) rfl, ⟨gw_in (i := 633) (by decide +kernel) rfl, gw_in (i := 634) (by decide +kernel) rfl⟩⟩
set_option maxRecDepth 100000 in
theorem okM76 : okM (yX9_hold, cX9_hold, 1, (some .int), 0, 9, false) := ⟨⟨by decide +kernel, by decide +kernel, by decide +kernel, by decide +kernel⟩, rfl, Nat.le_of_ble_eq_true rfl, gw_in (i := 645) rfl rfl, gw_in (i := 49) (by decide +kernel) rfl, ⟨gw_in (i := 643) (by decide +kernel) rfl, gw_in (i := 644) (by decide +kernel) rfl⟩⟩
set_option maxRecDepth 100000 in
theorem okM77 : okM (yX9_share, cX9_share, 2, (some .int), 1, 9, false) := ⟨⟨by decide +kernel, by decide +kernel, by decide +kernel, by decide +kernel⟩, rfl, Nat.le_of_ble_eq_true rfl, gw_in (i := 657) rfl rfl, gw_in (i := 49) (by decide +kernel) rfl, ⟨gw_in (i := 655) (by decide +kernel) rfl, gw_in (i := 656) (by decide +kernel) rfl⟩⟩
set_option maxRecDepth 100000 in
theorem okM78 : okM (yX9_paid, cX9_paid, 2, (some .int), 1, 9, false) := ⟨⟨by decide +kernel, by decide +kernel, by decide +kernel, by decide +kernel⟩, rfl, Nat.le_of_ble_eq_true rfl, gw_in (i := 665) rfl rfl, gw_in (i := 49) (by decide +kernel) rfl, ⟨gw_in (i := 663) (by decide +kernel) rfl, gw_in (i := 664) (by decide +kernel) rfl⟩⟩
set_option maxRecDepth 100000 in
theorem okM79 : okM (yX9_blink, cX9_blink, 8, (some .int), 3, 9, false) := ⟨⟨by decide +kernel, by decide +kernel, by decide +kernel, by decide +kernel⟩, rfl, Nat.le_of_ble_eq_true rfl, gw_in (i := 669) rfl rfl, gw_in (i := 49) (by decide +kernel) rfl, ⟨gw_in (i := 667) (by decide +kernel) rfl, gw_in (i := 668) (by decide +kernel) rfl⟩⟩
set_option maxRecDepth 100000 in
theorem okM80 : okM (yX9_see, cX9_see, 3, (some .int), 2, 9, false) := ⟨⟨by decide +kernel, by decide +kernel, by decide +kernel, by decide +kernel⟩, rfl, Nat.le_of_ble_eq_true rfl, gw_in (i := 676) rfl rfl, gw_in (i := 49) (by decide +kernel) rfl, ⟨gw_in (i := 674) (by decide +kernel) rfl, gw_in (i := 675) (by decide +kernel) rfl⟩⟩
set_option maxRecDepth 100000 in
theorem okM81 : okM (yX9_nodded, cX9_nodded, 3, (some .int), 2, 9, false) := ⟨⟨by decide +kernel, by decide +kernel, by decide +kernel, by decide +kernel⟩, rfl, Nat.le_of_ble_eq_true rfl, gw_in (i := 684) rfl rfl, gw_in (i := 49) (by decide +kernel) rfl, ⟨gw_in (i := 682) (by decide +kernel) rfl, gw_in (i := 683) (by decide +kernel) rfl⟩⟩
set_option maxRecDepth 100000 in
theorem okM82 : okM (yX9_askNext, cX9_askNext, 2, (some .int), 1, 9, false) := ⟨⟨by decide +kernel, by decide +kernel, by decide +kernel, by decide +kernel⟩, rfl, Nat.le_of_ble_eq_true rfl, gw_in (i := 707) rfl rfl, gw_in (i := 49) (by decide +kernel) rfl, ⟨gw_in (i := 705) (by decide +kernel) rfl, gw_in (i := 706) (by decide +kernel) rfl⟩⟩
set_option maxRecDepth 100000 in
theorem okM83 : okM (yX9_write, cX9_write, 3, (some .int), 2, 9, false) := ⟨⟨by decide +kernel, by decide +kernel, by decide +kernel, by decide +kernel⟩, rfl, Nat.le_of_ble_eq_true rfl, gw_in (i := 720) rfl rfl, gw_in (i := 49) (by decide +kernel) rfl, ⟨gw_in (i := 718) (by decide +kernel) rfl, gw_in (i := 719) (by decide +kernel) rfl⟩⟩
set_option maxRecDepth 100000 in
theorem okM84 : okM (yX9_tear, cX9_tear, 2, (some .int), 0, 9, false) := ⟨⟨by decide +kernel, by decide +kernel, by decide +kernel, by decide +kernel⟩, rfl, Nat.le_of_ble_eq_true rfl, gw_in (i := 728) rfl rfl, gw_in (i := 49) (by decide +kernel) rfl, ⟨gw_in (i := 726) (by decide +kernel) rfl, gw_in (i := 727) (by decide +kernel) rfl⟩⟩
set_option maxRecDepth 100000 in
theorem okM85 : okM (yX9_judge, cX9_judge, 1, (some .int), 0, 9, false) := ⟨⟨by decide +kernel, by decide +kernel, by decide +kernel, by decide +kernel⟩, rfl, Nat.le_of_ble_eq_true rfl, gw_in (i := 732) rfl rfl, gw_in (i := 49) (by decide +kernel) rfl, ⟨gw_in (i := 730) (by decide +kernel) rfl, gw_in (i := 731) (by decide +kernel) rfl⟩⟩
set_option maxRecDepth 100000 in
theorem okM86 : okM (yX9_seed, cX9_seed, 3, (some .int), 1, 9, false) := ⟨⟨by decide +kernel, by decide +kernel, by decide +kernel, by decide +kernel⟩, rfl, Nat.le_of_ble_eq_true rfl, gw_in (i := 740) rfl rfl, gw_in (i := 49) (by decide +kernel) rfl, ⟨gw_in (i := 738) (by decide +kernel) rfl, gw_in (i := 739) (by decide +kernel) rfl⟩⟩
set_option maxRecDepth 100000 in
theorem okM87 : okM (yX9_keep, cX9_keep, 2, (some .int), 1, 9, false) := ⟨⟨by decide +kernel, by decide +kernel, by decide +kernel, by decide +kernel⟩, rfl, Nat.le_of_ble_eq_true rfl, gw_in (i := 744) rfl rfl, gw_in (i := 49) (by decide +kernel) rfl, ⟨gw_in (i := 742) (by decide +kernel) rfl, gw_in (i := 743) (by decide +kernel) rfl⟩⟩
set_option maxRecDepth 100000 in
theorem okM88 : okM (yX9_goBack, cX9_goBack, 2, (some .int), 1, 9, false) := ⟨⟨by decide +kernel, by decide +kernel, by decide +kernel, by decide +kernel⟩, rfl, Nat.le_of_ble_eq_true rfl, gw_in (i := 758) rfl rfl, gw_in (i := 49) (by decide +kernel) rfl, ⟨gw_in (i := 756) (by decide +kernel) rfl, gw_in (i := 757) (by decide +kernel) rfl⟩⟩
set_option maxRecDepth 100000 in
theorem okM89 : okM (yX9_refusalOfHours, cX9_refusalOfHours, 2, (some .int), 1, 9, false) := ⟨⟨by decide +kernel, by decide +kernel, by decide +kernel, by decide +kernel⟩, rfl, Nat.le_of_ble_eq_true rfl, gw_in (i := 557) rfl rfl, gw_in (i := 49) (by decide +kernel) rfl, ⟨gw_in (i := 556) (by decide +kernel) rfl, gw_in (i := 11) (by decide +kernel) rfl⟩⟩
set_option maxRecDepth 100000 in
theorem okM90 : okM (yX9_afterCoffee, cX9_afterCoffee, 1, (some .int), 1, 9, true) := ⟨⟨by decide +kernel, by decide +kernel, by decide +kernel, by decide +kernel⟩, rfl, Nat.le_of_ble_eq_true rfl, gw_in (i := 548) rfl rfl, gw_in (i := 49) (by decide +kernel) rfl, gw_in (i := 547) (by decide +kernel) rfl⟩
set_option maxRecDepth 100000 in
theorem okM91 : okM (yX10_in, cX10_in, 6, (some .boolean), 3, 10, true) := ⟨⟨by decide +kernel, by decide +kernel, by decide +kernel, by decide +kernel⟩, rfl, Nat.le_of_ble_eq_true rfl, gw_in (i := 897) rfl rfl, gw_in (i := 59) (by decide +kernel) rfl, gw_in (i := 896) (by decide +kernel) rfl⟩
set_option maxRecDepth 100000 in
theorem okM92 : okM (yX10_has, cX10_has, 2, (some .boolean), 2, 10, true) := ⟨⟨by decide +kernel, by decide +kernel, by decide +kernel, by decide +kernel⟩, rfl, Nat.le_of_ble_eq_true rfl, gw_in (i := 991) rfl rfl, gw_in (i := 59) (by decide +kernel) rfl, gw_in (i := 990) (by decide +kernel) rfl⟩
set_option maxRecDepth 100000 in
theorem okM93 : okM (yX10_bits, cX10_bits, 3, (some .int), 1, 10, true) := ⟨⟨by decide +kernel, by decide +kernel, by decide +kernel, by decide +kernel⟩, rfl, Nat.le_of_ble_eq_true rfl, gw_in (i := 1004) rfl rfl, gw_in (i := 59) (by decide +kernel) rfl, gw_in (i := 1003) (by decide +kernel) rfl⟩
set_option maxRecDepth 100000 in
theorem okM94 : okM (yX10_atMost, cX10_atMost, 2, (some .int), 2, 10, true) := ⟨⟨by decide +kernel, by decide +kernel, by decide +kernel, by decide +kernel⟩, rfl, Nat.le_of_ble_eq_true rfl, gw_in (i := 997) rfl rfl, gw_in (i := 59) (by decide +kernel) rfl, gw_in (i := 996) (by decide +kernel) rfl⟩
set_option maxRecDepth 100000 in
theorem okM95 : okM (yX10_atLeast, cX10_atLeast, 2, (some .int), 2, 10, true) := ⟨⟨by decide +kernel, by decide +kernel, by decide +kernel, by decide +kernel⟩, rfl, Nat.le_of_ble_eq_true rfl, gw_in (i := 994) rfl rfl, gw_in (i := 59) (by decide +kernel) rfl, gw_in (i := 993) (by decide +kernel) rfl⟩
set_option maxRecDepth 100000 in
theorem okM96 : okM (yX10_isWatcher, cX10_isWatcher, 2, (some .boolean), 1, 10, false) := ⟨⟨by decide +kernel, by decide +kernel, by decide +kernel, by decide +kernel⟩, rfl, Nat.le_of_ble_eq_true rfl, gw_in (i := 957) rfl rfl, gw_in (i := 59) (by decide +kernel) rfl, ⟨gw_in (i := 956) (by decide +kernel) rfl, gw_in (i := 29) (by decide +kernel) rfl⟩⟩
set_option maxRecDepth 100000 in
theorem okM97 : okM (yX10_isSleeper, cX10_isSleeper, 2, (some .boolean), 1, 10, false) := ⟨⟨by decide +kernel, by decide +kernel, by decide +kernel, by decide +kernel⟩, rfl, Nat.le_of_ble_eq_true rfl, gw_in (i := 966) rfl rfl, gw_in (i := 59) (by decide +kernel) rfl, ⟨gw_in (i := 965) (by decide +kernel) rfl, gw_in (i := 30) (by decide +kernel) rfl⟩⟩
set_option maxRecDepth 100000 in
theorem okM98 : okM (yX10_isSet, cX10_isSet, 2, (some .boolean), 1, 10, false) := ⟨⟨by decide +kernel, by decide +kernel, by decide +kernel, by decide +kernel⟩, rfl, Nat.le_of_ble_eq_true rfl, gw_in (i := 974) rfl rfl, gw_in (i := 59) (by decide +kernel) rfl, ⟨gw_in (i := 973) (by decide +kernel) rfl, gw_in (i := 31) (by decide +kernel) rfl⟩⟩
set_option maxRecDepth 100000 in
theorem okM99 : okM (yX10_feed, cX10_feed, 2, (some .int), 1, 10, false) := ⟨⟨by decide +kernel, by decide +kernel, by decide +kernel, by decide +kernel⟩, rfl, Nat.le_of_ble_eq_true rfl, gw_in (i := 893) rfl rfl, gw_in (i := 59) (by decide +kernel) rfl, ⟨gw_in (i := 891) (by decide +kernel) rfl, gw_in (i := 892) (by decide +kernel) rfl⟩⟩
set_option maxRecDepth 100000 in
theorem okM100 : okM (yX10_here, cX10_here, 1, (some .int), 0, 10, false) := ⟨⟨by decide +kernel, by decide +kernel, by decide +kernel, by decide +kernel⟩, rfl, Nat.le_of_ble_eq_true rfl, gw_in (i := 907) rfl rfl, gw_in (i := 59) (by decide +kernel) rfl, ⟨gw_in (i := 906) (by decide +kernel) rfl, gw_in (i := 20) (by decide +kernel) rfl⟩⟩
set_option maxRecDepth 100000 in
theorem okM101 : okM (yX10_fails, cX10_fails, 3, (some .int), 2, 10, false) := ⟨⟨by decide +kernel, by decide +kernel, by decide +kernel, by decide +kernel⟩, rfl, Nat.le_of_ble_eq_true rfl, gw_in (i := 915) rfl rfl, gw_in (i := 59) (by decide +kernel) rfl, ⟨gw_in (i := 914) (by decide +kernel) rfl, gw_in (i := 22) (by decide +kernel) rfl⟩⟩
set_option maxRecDepth 100000 in
theorem okM102 : okM (yX10_takeNumber, cX10_takeNumber, 4, (some .int), 2, 10, false) := ⟨⟨by decide +kernel, by decide +kernel, by decide +kernel, by decide +kernel⟩, rfl, Nat.le_of_ble_eq_true rfl, gw_in (i := 927) rfl rfl, gw_in (i := 59) (by decide +kernel) rfl, ⟨gw_in (i := 926) (by decide +kernel) rfl, gw_in (i := 25) (by decide +kernel) rfl⟩⟩
set_option maxRecDepth 100000 in
theorem okM103 : okM (yX10_into, cX10_into, 6, (some .int), 4, 10, false) := ⟨⟨by decide +kernel, by decide +kernel, by decide +kernel, by decide +kernel⟩, rfl, Nat.le_of_ble_eq_true rfl, gw_in (i := 923) rfl rfl, gw_in (i := 59) (by decide +kernel) rfl, ⟨gw_in (i := 922) (by decide +kernel) rfl, gw_in (i := 24) (by decide +kernel) rfl⟩⟩
set_option maxRecDepth 100000 in
theorem okM104 : okM (yX10_takeContract, cX10_takeContract, 2, (some .int), 0, 10, false) := ⟨⟨by decide +kernel, by decide +kernel, by decide +kernel, by decide +kernel⟩, rfl, Nat.le_of_ble_eq_true rfl, gw_in (i := 919) rfl rfl, gw_in (i := 59) (by decide +kernel) rfl, ⟨gw_in (i := 918) (by decide +kernel) rfl, gw_in (i := 23) (by decide +kernel) rfl⟩⟩
set_option maxRecDepth 100000 in
theorem okM105 : okM (yX10_takeWatcher, cX10_takeWatcher, 3, (some .int), 0, 10, false) := ⟨⟨by decide +kernel, by decide +kernel, by decide +kernel, by decide +kernel⟩, rfl, Nat.le_of_ble_eq_true rfl, gw_in (i := 933) rfl rfl, gw_in (i := 59) (by decide +kernel) rfl, ⟨gw_in (i := 932) (by decide +kernel) rfl, gw_in (i := 26) (by decide +kernel) rfl⟩⟩
set_option maxRecDepth 100000 in
theorem okM106 : okM (yX10_takeSleeper, cX10_takeSleeper, 2, (some .int), 0, 10, false) := ⟨⟨by decide +kernel, by decide +kernel, by decide +kernel, by decide +kernel⟩, rfl, Nat.le_of_ble_eq_true rfl, gw_in (i := 937) rfl rfl, gw_in (i := 59) (by decide +kernel) rfl, ⟨gw_in (i := 936) (by decide +kernel) rfl, gw_in (i := 27) (by decide +kernel) rfl⟩⟩
set_option maxRecDepth 100000 in
theorem okM107 : okM (yX10_takeClause, cX10_takeClause, 5, (some .int), 0, 10, false) := ⟨⟨by decide +kernel, by decide +kernel, by decide +kernel, by decide +kernel⟩, rfl, Nat.le_of_ble_eq_true rfl, gw_in (i := 911) rfl rfl, gw_in (i := 59) (by decide +kernel) rfl, ⟨gw_in (i := 910) (by decide +kernel) rfl, gw_in (i := 21) (by decide +kernel) rfl⟩⟩
set_option maxRecDepth 100000 in
theorem okM108 : okM (yX10_takeRead, cX10_takeRead, 2, none, 0, 10, false) := ⟨⟨by decide +kernel, by decide +kernel, by decide +kernel, by decide +kernel⟩, rfl, Nat.le_of_ble_eq_true rfl, gw_in (i := 941) rfl rfl, gw_in (i := 59) (by decide +kernel) rfl, ⟨gw_in (i := 940) (by decide +kernel) rfl, gw_in (i := 28) (by decide +kernel) rfl⟩⟩
set_option maxRecDepth 100000 in
theorem okM109 : okM (yX10_contract, cX10_contract, 2, (some .int), 0, 10, false) := ⟨⟨by decide +kernel, by decide +kernel, by decide +kernel, by decide +kernel⟩, rfl, Nat.le_of_ble_eq_true rfl, gw_in (i := 903) rfl rfl, gw_in (i := 59) (by decide +kernel) rfl, ⟨gw_in (i := 901) (by decide +kernel) rfl, gw_in (i := 902) (by decide +kernel) rfl⟩⟩
set_option maxRecDepth 100000 in
theorem okM110 : okM (yX10_fault, cX10_fault, 1, (some .int), 0, 10, false) := ⟨⟨by decide +kernel, by decide +kernel, by decide +kernel, by decide +kernel⟩, rfl, Nat.le_of_ble_eq_true rfl, gw_in (i := 945) rfl rfl, gw_in (i := 59) (by decide +kernel) rfl, ⟨gw_in (i := 943) (by decide +kernel) rfl, gw_in (i := 944) (by decide +kernel) rfl⟩⟩
set_option maxRecDepth 100000 in
theorem okM111 : okM (yX10_told, cX10_told, 2, (some .int), 1, 10, false) := ⟨⟨by decide +kernel, by decide +kernel, by decide +kernel, by decide +kernel⟩, rfl, Nat.le_of_ble_eq_true rfl, gw_in (i := 949) rfl rfl, gw_in (i := 59) (by decide +kernel) rfl, ⟨gw_in (i := 947) (by decide +kernel) rfl, gw_in (i := 948) (by decide +kernel) rfl⟩⟩
set_option maxRecDepth 100000 in
theorem okM112 : okM (yX10_watcher, cX10_watcher, 3, (some .int), 2, 10, false) := ⟨⟨by decide +kernel, by decide +kernel, by decide +kernel, by decide +kernel⟩, rfl, Nat.le_of_ble_eq_true rfl, gw_in (i := 953) rfl rfl, gw_in (i := 59) (by decide +kernel) rfl, ⟨gw_in (i := 951) (by decide +kernel) rfl, gw_in (i := 952) (by decide +kernel) rfl⟩⟩
set_option maxRecDepth 100000 in
theorem okM113 : okM (yX10_sleeper, cX10_sleeper, 2, (some .int), 1, 10, false) := ⟨⟨by decide +kernel, by decide +kernel, by decide +kernel, by decide +kernel⟩, rfl, Nat.le_of_ble_eq_true rfl, gw_in (i := 962) rfl rfl, gw_in (i := 59) (by decide +kernel) rfl, ⟨gw_in (i := 960) (by decide +kernel) rfl, gw_in (i := 961) (by decide +kernel) rfl⟩⟩
set_option maxRecDepth 100000 in
theorem okM114 : okM (yX10_tire, cX10_tire, 6, (some .int), 2, 10, false) := ⟨⟨by decide +kernel, by decide +kernel, by decide +kernel, by decide +kernel⟩, rfl, Nat.le_of_ble_eq_true rfl, gw_in (i := 988) rfl rfl, gw_in (i := 59) (by decide +kernel) rfl, ⟨gw_in (i := 987) (by decide +kernel) rfl, gw_in (i := 34) (by decide +kernel) rfl⟩⟩
set_option maxRecDepth 100000 in
theorem okM115 : okM (yX10_sitsUp, cX10_sitsUp, 4, (some .boolean), 3, 10, true) := ⟨⟨by decide +kernel, by decide +kernel, by decide +kernel, by decide +kernel⟩, rfl, Nat.le_of_ble_eq_true rfl, gw_in (i := 1000) rfl rfl, gw_in (i := 59) (by decide +kernel) rfl, gw_in (i := 999) (by decide +kernel) rfl⟩
set_option maxRecDepth 100000 in
theorem okM116 : okM (yX10_passHour, cX10_passHour, 1, none, 0, 10, false) := ⟨⟨by decide +kernel, by decide +kernel, by decide +kernel, by decide +kernel⟩, rfl, Nat.le_of_ble_eq_true rfl, gw_in (i := 1008) rfl rfl, gw_in (i := 59) (by decide +kernel) rfl, ⟨gw_in (i := 1007) (by decide +kernel) rfl, gw_in (i := 35) (by decide +kernel) rfl⟩⟩
set_option maxRecDepth 100000 in
theorem okM117 : okM (yX10_hourBy, cX10_hourBy, 7, none, 2, 10, false) := ⟨⟨by decide +kernel, by decide +kernel, by decide +kernel, by decide +kernel⟩, rfl, Nat.le_of_ble_eq_true rfl, gw_in (i := 984) rfl rfl, gw_in (i := 59) (by decide +kernel) rfl, ⟨gw_in (i := 983) (by decide +kernel) rfl, gw_in (i := 33) (by decide +kernel) rfl⟩⟩
set_option maxRecDepth 100000 in
theorem okM118 : okM (yX10_remember, cX10_remember, 2, none, 0, 10, false) := ⟨⟨by decide +kernel, by decide +kernel, by decide +kernel, by decide +kernel⟩, rfl, Nat.le_of_ble_eq_true rfl, gw_in (i := 980) rfl rfl, gw_in (i := 59) (by decide +kernel) rfl, ⟨gw_in (i := 979) (by decide +kernel) rfl, gw_in (i := 32) (by decide +kernel) rfl⟩⟩
set_option maxRecDepth 100000 in
theorem okM119 : okM (yX10_hour, cX10_hour, 3, (some .int), 2, 10, false) := ⟨⟨by decide +kernel, by decide +kernel, by decide +kernel, by decide +kernel⟩, rfl, Nat.le_of_ble_eq_true rfl, gw_in (i := 970) rfl rfl, gw_in (i := 59) (by decide +kernel) rfl, ⟨gw_in (i := 968) (by decide +kernel) rfl, gw_in (i := 969) (by decide +kernel) rfl⟩⟩
set_option maxRecDepth 100000 in
theorem okM120 : okM (yX10_coffee, cX10_coffee, 2, (some .int), 1, 10, false) := ⟨⟨by decide +kernel, by decide +kernel, by decide +kernel, by decide +kernel⟩, rfl, Nat.le_of_ble_eq_true rfl, gw_in (i := 1012) rfl rfl, gw_in (i := 59) (by decide +kernel) rfl, ⟨gw_in (i := 1010) (by decide +kernel) rfl, gw_in (i := 1011) (by decide +kernel) rfl⟩⟩
set_option maxRecDepth 100000 in
theorem okM121 : okM (yX10_hoursRefused, cX10_hoursRefused, 2, (some .int), 1, 10, false) := ⟨⟨by decide +kernel, by decide +kernel, by decide +kernel, by decide +kernel⟩, rfl, Nat.le_of_ble_eq_true rfl, gw_in (i := 1020) rfl rfl, gw_in (i := 59) (by decide +kernel) rfl, ⟨gw_in (i := 1019) (by decide +kernel) rfl, gw_in (i := 36) (by decide +kernel) rfl⟩⟩
set_option maxRecDepth 100000 in
theorem okM122 : okM (yX10_rest, cX10_rest, 4, (some .int), 1, 10, false) := ⟨⟨by decide +kernel, by decide +kernel, by decide +kernel, by decide +kernel⟩, rfl, Nat.le_of_ble_eq_true rfl, gw_in (i := 1016) rfl rfl, gw_in (i := 59) (by decide +kernel) rfl, ⟨gw_in (i := 1014) (by decide +kernel) rfl, gw_in (i := 1015) (by decide +kernel) rfl⟩⟩
set_option maxRecDepth 100000 in
theorem okM123 : okM (yX10_draw, cX10_draw, 2, (some .int), 1, 10, false) := ⟨⟨by decide +kernel, by decide +kernel, by decide +kernel, by decide +kernel⟩, rfl, Nat.le_of_ble_eq_true rfl, gw_in (i := 1029) rfl rfl, gw_in (i := 59) (by decide +kernel) rfl, ⟨gw_in (i := 1028) (by decide +kernel) rfl, gw_in (i := 37) (by decide +kernel) rfl⟩⟩
set_option maxRecDepth 100000 in
theorem okM124 : okM (yX10_drift, cX10_drift, 5, (some .int), 1, 10, false) := ⟨⟨by decide +kernel, by decide +kernel, by decide +kernel, by decide +kernel⟩, rfl, Nat.le_of_ble_eq_true rfl, gw_in (i := 1025) rfl rfl, gw_in (i := 59) (by decide +kernel) rfl, ⟨gw_in (i := 1023) (by decide +kernel) rfl, gw_in (i := 1024) (by decide +kernel) rfl⟩⟩
set_option maxRecDepth 100000 in
theorem okM125 : okM (yX10_undo, cX10_undo, 2, (some .int), 0, 10, false) := ⟨⟨by decide +kernel, by decide +kernel, by decide +kernel, by decide +kernel⟩, rfl, Nat.le_of_ble_eq_true rfl, gw_in (i := 1037) rfl rfl, gw_in (i := 59) (by decide +kernel) rfl, ⟨gw_in (i := 1035) (by decide +kernel) rfl, gw_in (i := 1036) (by decide +kernel) rfl⟩⟩
set_option maxRecDepth 100000 in
theorem okM126 : okM (yX10_save, cX10_save, 2, none, 0, 10, false) := ⟨⟨by decide +kernel, by decide +kernel, by decide +kernel, by decide +kernel⟩, rfl, Nat.le_of_ble_eq_true rfl, gw_in (i := 1049) rfl rfl, gw_in (i := 59) (by decide +kernel) rfl, ⟨gw_in (i := 1048) (by decide +kernel) rfl, gw_in (i := 39) (by decide +kernel) rfl⟩⟩
set_option maxRecDepth 100000 in
theorem okM127 : okM (yX10_putBack, cX10_putBack, 2, none, 0, 10, false) := ⟨⟨by decide +kernel, by decide +kernel, by decide +kernel, by decide +kernel⟩, rfl, Nat.le_of_ble_eq_true rfl, gw_in (i := 1057) rfl rfl, gw_in (i := 59) (by decide +kernel) rfl, ⟨gw_in (i := 1056) (by decide +kernel) rfl, gw_in (i := 41) (by decide +kernel) rfl⟩⟩
set_option maxRecDepth 100000 in
theorem okM128 : okM (yX10_behindRow, cX10_behindRow, 4, (some .int), 0, 10, false) := ⟨⟨by decide +kernel, by decide +kernel, by decide +kernel, by decide +kernel⟩, rfl, Nat.le_of_ble_eq_true rfl, gw_in (i := 1053) rfl rfl, gw_in (i := 59) (by decide +kernel) rfl, ⟨gw_in (i := 1052) (by decide +kernel) rfl, gw_in (i := 40) (by decide +kernel) rfl⟩⟩
set_option maxRecDepth 100000 in
theorem okM129 : okM (yX10_nextRow, cX10_nextRow, 2, (some .boolean), 0, 10, false) := ⟨⟨by decide +kernel, by decide +kernel, by decide +kernel, by decide +kernel⟩, rfl, Nat.le_of_ble_eq_true rfl, gw_in (i := 1061) rfl rfl, gw_in (i := 59) (by decide +kernel) rfl, ⟨gw_in (i := 1060) (by decide +kernel) rfl, gw_in (i := 42) (by decide +kernel) rfl⟩⟩
set_option maxRecDepth 100000 in
theorem okM130 : okM (yX10_findWatches, cX10_findWatches, 4, none, 0, 10, false) := ⟨⟨by decide +kernel, by decide +kernel, by decide +kernel, by decide +kernel⟩, rfl, Nat.le_of_ble_eq_true rfl, gw_in (i := 1045) rfl rfl, gw_in (i := 59) (by decide +kernel) rfl, ⟨gw_in (i := 1044) (by decide +kernel) rfl, gw_in (i := 38) (by decide +kernel) rfl⟩⟩
set_option maxRecDepth 100000 in
theorem okM131 : okM (yX10_watches, cX10_watches, 2, (some .int), 1, 10, false) := ⟨⟨by decide +kernel, by decide +kernel, by decide +kernel, by decide +kernel⟩, rfl, Nat.le_of_ble_eq_true rfl, gw_in (i := 1041) rfl rfl, gw_in (i := 59) (by decide +kernel) rfl, ⟨gw_in (i := 1039) (by decide +kernel) rfl, gw_in (i := 1040) (by decide +kernel) rfl⟩⟩
set_option maxRecDepth 100000 in
theorem okM132 : okM (yX10_nodsOfAll, cX10_nodsOfAll, 4, (some .int), 1, 10, false) := ⟨⟨by decide +kernel, by decide +kernel, by decide +kernel, by decide +kernel⟩, rfl, Nat.le_of_ble_eq_true rfl, gw_in (i := 1070) rfl rfl, gw_in (i := 59) (by decide +kernel) rfl, ⟨gw_in (i := 1069) (by decide +kernel) rfl, gw_in (i := 43) (by decide +kernel) rfl⟩⟩
set_option maxRecDepth 100000 in
theorem okM133 : okM (yX10_bellHour, cX10_bellHour, 6, (some .int), 1, 10, false) := ⟨⟨by decide +kernel, by decide +kernel, by decide +kernel, by decide +kernel⟩, rfl, Nat.le_of_ble_eq_true rfl, gw_in (i := 1065) rfl rfl, gw_in (i := 59) (by decide +kernel) rfl, ⟨gw_in (i := 1063) (by decide +kernel) rfl, gw_in (i := 1064) (by decide +kernel) rfl⟩⟩
set_option maxRecDepth 100000 in
theorem okM134 : okM (yX10_coffeeFor, cX10_coffeeFor, 5, (some .int), 0, 10, false) := ⟨⟨by decide +kernel, by decide +kernel, by decide +kernel, by decide +kernel⟩, rfl, Nat.le_of_ble_eq_true rfl, gw_in (i := 1074) rfl rfl, gw_in (i := 59) (by decide +kernel) rfl, ⟨gw_in (i := 1072) (by decide +kernel) rfl, gw_in (i := 1073) (by decide +kernel) rfl⟩⟩
set_option maxRecDepth 100000 in
theorem okM135 : okM (yX10_nights, cX10_nights, 4, (some .int), 1, 10, false) := ⟨⟨by decide +kernel, by decide +kernel, by decide +kernel, by decide +kernel⟩, rfl, Nat.le_of_ble_eq_true rfl, gw_in (i := 1078) rfl rfl, gw_in (i := 59) (by decide +kernel) rfl, ⟨gw_in (i := 1076) (by decide +kernel) rfl, gw_in (i := 1077) (by decide +kernel) rfl⟩⟩
set_option maxRecDepth 100000 in
theorem okM136 : okM (yX10_holds, cX10_holds, 4, (some .boolean), 1, 10, false) := ⟨⟨by decide +kernel, by decide +kernel, by decide +kernel, by decide +kernel⟩, rfl, Nat.le_of_ble_eq_true rfl, gw_in (i := 1086) rfl rfl, gw_in (i := 59) (by decide +kernel) rfl, ⟨gw_in (i := 1085) (by decide +kernel) rfl, gw_in (i := 44) (by decide +kernel) rfl⟩⟩
set_option maxRecDepth 100000 in
theorem okM137 : okM (yX10_hold, cX10_hold, 4, (some .int), 0, 10, false) := ⟨⟨by decide +kernel, by decide +kernel, by decide +kernel, by decide +kernel⟩, rfl, Nat.le_of_ble_eq_true rfl, gw_in (i := 1082) rfl rfl, gw_in (i := 59) (by decide +kernel) rfl, ⟨gw_in (i := 1080) (by decide +kernel) rfl, gw_in (i := 1081) (by decide +kernel) rfl⟩⟩
set_option maxRecDepth 100000 in
theorem okM138 : okM (yX10_allHours, cX10_allHours, 3, (some .int), 0, 10, false) := ⟨⟨by decide +kernel, by decide +kernel, by decide +kernel, by decide +kernel⟩, rfl, Nat.le_of_ble_eq_true rfl, gw_in (i := 1094) rfl rfl, gw_in (i := 59) (by decide +kernel) rfl, ⟨gw_in (i := 1093) (by decide +kernel) rfl, gw_in (i := 45) (by decide +kernel) rfl⟩⟩
set_option maxRecDepth 100000 in
theorem okM139 : okM (yX10_share, cX10_share, 3, (some .int), 1, 10, false) := ⟨⟨by decide +kernel, by decide +kernel, by decide +kernel, by decide +kernel⟩, rfl, Nat.le_of_ble_eq_true rfl, gw_in (i := 1090) rfl rfl, gw_in (i := 59) (by decide +kernel) rfl, ⟨gw_in (i := 1088) (by decide +kernel) rfl, gw_in (i := 1089) (by decide +kernel) rfl⟩⟩
set_option maxRecDepth 100000 in
theorem okM140 : okM (yX10_paid, cX10_paid, 5, (some .int), 1, 10, false) := ⟨⟨by decide +kernel, by decide +kernel, by decide +kernel, by decide +kernel⟩, rfl, Nat.le_of_ble_eq_true rfl, gw_in (i := 1099) rfl rfl, gw_in (i := 59) (by decide +kernel) rfl, ⟨gw_in (i := 1097) (by decide +kernel) rfl, gw_in (i := 1098) (by decide +kernel) rfl⟩⟩
set_option maxRecDepth 100000 in
theorem okM141 : okM (yX10_blink, cX10_blink, 8, (some .int), 3, 10, false) := ⟨⟨by decide +kernel, by decide +kernel, by decide +kernel, by decide +kernel⟩, rfl, Nat.le_of_ble_eq_true rfl, gw_in (i := 1103) rfl rfl, gw_in (i := 59) (by decide +kernel) rfl, ⟨gw_in (i := 1101) (by decide +kernel) rfl, gw_in (i := 1102) (by decide +kernel) rfl⟩⟩
set_option maxRecDepth 100000 in
theorem okM142 : okM (yX10_see, cX10_see, 3, (some .int), 2, 10, false) := ⟨⟨by decide +kernel, by decide +kernel, by decide +kernel, by decide +kernel⟩, rfl, Nat.le_of_ble_eq_true rfl, gw_in (i := 1109) rfl rfl, gw_in (i := 59) (by decide +kernel) rfl, ⟨gw_in (i := 1107) (by decide +kernel) rfl, gw_in (i := 1108) (by decide +kernel) rfl⟩⟩
set_option maxRecDepth 100000 in
theorem okM143 : okM (yX10_couldNod, cX10_couldNod, 5, (some .boolean), 2, 10, false) := ⟨⟨by decide +kernel, by decide +kernel, by decide +kernel, by decide +kernel⟩, rfl, Nat.le_of_ble_eq_true rfl, gw_in (i := 1121) rfl rfl, gw_in (i := 59) (by decide +kernel) rfl, ⟨gw_in (i := 1120) (by decide +kernel) rfl, gw_in (i := 47) (by decide +kernel) rfl⟩⟩
set_option maxRecDepth 100000 in
theorem okM144 : okM (yX10_sureOf, cX10_sureOf, 5, (some .int), 1, 10, false) := ⟨⟨by decide +kernel, by decide +kernel, by decide +kernel, by decide +kernel⟩, rfl, Nat.le_of_ble_eq_true rfl, gw_in (i := 1117) rfl rfl, gw_in (i := 59) (by decide +kernel) rfl, ⟨gw_in (i := 1116) (by decide +kernel) rfl, gw_in (i := 46) (by decide +kernel) rfl⟩⟩
set_option maxRecDepth 100000 in
theorem okM145 : okM (yX10_nodded, cX10_nodded, 6, (some .int), 2, 10, false) := ⟨⟨by decide +kernel, by decide +kernel, by decide +kernel, by decide +kernel⟩, rfl, Nat.le_of_ble_eq_true rfl, gw_in (i := 1113) rfl rfl, gw_in (i := 59) (by decide +kernel) rfl, ⟨gw_in (i := 1111) (by decide +kernel) rfl, gw_in (i := 1112) (by decide +kernel) rfl⟩⟩
set_option maxRecDepth 100000 in
theorem okM146 : okM (yX10_askNext, cX10_askNext, 8, (some .int), 1, 10, false) := ⟨⟨by decide +kernel, by decide +kernel, by decide +kernel, by decide +kernel⟩, rfl, Nat.le_of_ble_eq_true rfl, gw_in (i := 1125) rfl rfl, gw_in (i := 59) (by decide +kernel) rfl, ⟨gw_in (i := 1123) (by decide +kernel) rfl, gw_in (i := 1124) (by decide +kernel) rfl⟩⟩
set_option maxRecDepth 100000 in
theorem okM147 : okM (yX10_write, cX10_write, 3, (some .int), 2, 10, false) := ⟨⟨by decide +kernel, by decide +kernel, by decide +kernel, by decide +kernel⟩, rfl, Nat.le_of_ble_eq_true rfl, gw_in (i := 1129) rfl rfl, gw_in (i := 59) (by decide +kernel) rfl, ⟨gw_in (i := 1127) (by decide +kernel) rfl, gw_in (i := 1128) (by decide +kernel) rfl⟩⟩
set_option maxRecDepth 100000 in
theorem okM148 : okM (yX10_tear, cX10_tear, 2, (some .int), 0, 10, false) := ⟨⟨by decide +kernel, by decide +kernel, by decide +kernel, by decide +kernel⟩, rfl, Nat.le_of_ble_eq_true rfl, gw_in (i := 1134) rfl rfl, gw_in (i := 59) (by decide +kernel) rfl, ⟨gw_in (i := 1132) (by decide +kernel) rfl, gw_in (i := 1133) (by decide +kernel) rfl⟩⟩
set_option maxRecDepth 100000 in
theorem okM149 : okM (yX10_judge, cX10_judge, 2, (some .int), 0, 10, false) := ⟨⟨by decide +kernel, by decide +kernel, by decide +kernel, by decide +kernel⟩, rfl, Nat.le_of_ble_eq_true rfl, gw_in (i := 1138) rfl rfl, gw_in (i := 59) (by decide +kernel) rfl, ⟨gw_in (i := 1136) (by decide +kernel) rfl, gw_in (i := 1137) (by decide +kernel) rfl⟩⟩
set_option maxRecDepth 100000 in
theorem okM150 : okM (yX10_seed, cX10_seed, 3, (some .int), 1, 10, false) := ⟨⟨by decide +kernel, by decide +kernel, by decide +kernel, by decide +kernel⟩, rfl, Nat.le_of_ble_eq_true rfl, gw_in (i := 1142) rfl rfl, gw_in (i := 59) (by decide +kernel) rfl, ⟨gw_in (i := 1140) (by decide +kernel) rfl, gw_in (i := 1141) (by decide +kernel) rfl⟩⟩
set_option maxRecDepth 100000 in
theorem okM151 : okM (yX10_keep, cX10_keep, 3, (some .int), 1, 10, false) := ⟨⟨by decide +kernel, by decide +kernel, by decide +kernel, by decide +kernel⟩, rfl, Nat.le_of_ble_eq_true rfl, gw_in (i := 1146) rfl rfl, gw_in (i := 59) (by decide +kernel) rfl, ⟨gw_in (i := 1144) (by decide +kernel) rfl, gw_in (i := 1145) (by decide +kernel) rfl⟩⟩
set_option maxRecDepth 100000 in
theorem okM152 : okM (yX10_goBack, cX10_goBack, 3, (some .int), 1, 10, false) := ⟨⟨by decide +kernel, by decide +kernel, by decide +kernel, by decide +kernel⟩, rfl, Nat.le_of_ble_eq_true rfl, gw_in (i := 1150) rfl rfl, gw_in (i := 59) (by decide +kernel) rfl, ⟨gw_in (i := 1148) (by decide +kernel) rfl, gw_in (i := 1149) (by decide +kernel) rfl⟩⟩
set_option maxRecDepth 100000 in
theorem okM153 : okM (yJ6_bitCount_0f7a4, cJ6_bitCount_0f7a4, 1, (some .int), 1, 12, true) := ⟨⟨by decide +kernel, by decide +kernel, by decide +kernel, by decide +kernel⟩, rfl, Nat.le_of_ble_eq_true rfl, gw_in (i := 534) rfl rfl, gw_in (i := 62) (by decide +kernel) rfl, gw_in (i := 533) (by decide +kernel) rfl⟩
set_option maxRecDepth 100000 in
theorem mtt_ok : ∀ q ∈ mtt, okM q := List.forall_mem_cons.mpr ⟨okM0, List.forall_mem_cons.mpr ⟨okM1, List.forall_mem_cons.mpr ⟨okM2, List.forall_mem_cons.mpr ⟨okM3, List.forall_mem_cons.mpr ⟨okM4, List.forall_mem_cons.mpr ⟨okM5, List.forall_mem_cons.mpr ⟨okM6, List.forall_mem_cons.mpr ⟨okM7, List.forall_mem_cons.mpr ⟨okM8, List.forall_mem_cons.mpr ⟨okM9, List.forall_mem_cons.mpr ⟨okM10, List.forall_mem_cons.mpr ⟨okM11, List.forall_mem_cons.mpr ⟨okM12, List.forall_mem_cons.mpr ⟨okM13, List.forall_mem_cons.mpr ⟨okM14, List.forall_mem_cons.mpr ⟨okM15, List.forall_mem_cons.mpr ⟨okM16, List.forall_mem_cons.mpr ⟨okM17, List.forall_mem_cons.mpr ⟨okM18, List.forall_mem_cons.mpr ⟨okM19, List.forall_mem_cons.mpr ⟨okM20, List.forall_mem_cons.mpr ⟨okM21, List.forall_mem_cons.mpr ⟨okM22, List.forall_mem_cons.mpr ⟨okM23, List.forall_mem_cons.mpr ⟨okM24, List.forall_mem_cons.mpr ⟨okM25, List.forall_mem_cons.mpr ⟨okM26, List.forall_mem_cons.mpr ⟨okM27, List.forall_mem_cons.mpr ⟨okM28, List.forall_mem_cons.mpr ⟨okM29, List.forall_mem_cons.mpr ⟨okM30, List.forall_mem_cons.mpr ⟨okM31, List.forall_mem_cons.mpr ⟨okM32, List.forall_mem_cons.mpr ⟨okM33, List.forall_mem_cons.mpr ⟨okM34, List.forall_mem_cons.mpr ⟨okM35, List.forall_mem_cons.mpr ⟨okM36, List.forall_mem_cons.mpr ⟨okM37, List.forall_mem_cons.mpr ⟨okM38, List.forall_mem_cons.mpr ⟨okM39, List.forall_mem_cons.mpr ⟨okM40, List.forall_mem_cons.mpr ⟨okM41, List.forall_mem_cons.mpr ⟨okM42, List.forall_mem_cons.mpr ⟨okM43, List.forall_mem_cons.mpr ⟨okM44, List.forall_mem_cons.mpr ⟨okM45, List.forall_mem_cons.mpr ⟨okM46, List.forall_mem_cons.mpr ⟨okM47, List.forall_mem_cons.mpr ⟨okM48, List.forall_mem_cons.mpr ⟨okM49, List.forall_mem_cons.mpr ⟨okM50, List.forall_mem_cons.mpr ⟨okM51, List.forall_mem_cons.mpr ⟨okM52, List.forall_mem_cons.mpr ⟨okM53, List.forall_mem_cons.mpr ⟨okM54, List.forall_mem_cons.mpr ⟨okM55, List.forall_mem_cons.mpr ⟨okM56, List.forall_mem_cons.mpr ⟨okM57, List.forall_mem_cons.mpr ⟨okM58, List.forall_mem_cons.mpr ⟨okM59, List.forall_mem_cons.mpr ⟨okM60, List.forall_mem_cons.mpr ⟨okM61, List.forall_mem_cons.mpr ⟨okM62, List.forall_mem_cons.mpr ⟨okM63, List.forall_mem_cons.mpr ⟨okM64, List.forall_mem_cons.mpr ⟨okM65, List.forall_mem_cons.mpr ⟨okM66, List.forall_mem_cons.mpr ⟨okM67, List.forall_mem_cons.mpr ⟨okM68, List.forall_mem_cons.mpr ⟨okM69, List.forall_mem_cons.mpr ⟨okM70, List.forall_mem_cons.mpr ⟨okM71, List.forall_mem_cons.mpr ⟨okM72, List.forall_mem_cons.mpr ⟨okM73, List.forall_mem_cons.mpr ⟨okM74, List.forall_mem_cons.mpr ⟨okM75, List.forall_mem_cons.mpr ⟨okM76, List.forall_mem_cons.mpr ⟨okM77, List.forall_mem_cons.mpr ⟨okM78, List.forall_mem_cons.mpr ⟨okM79, List.forall_mem_cons.mpr ⟨okM80, List.forall_mem_cons.mpr ⟨okM81, List.forall_mem_cons.mpr ⟨okM82, List.forall_mem_cons.mpr ⟨okM83, List.forall_mem_cons.mpr ⟨okM84, List.forall_mem_cons.mpr ⟨okM85, List.forall_mem_cons.mpr ⟨okM86, List.forall_mem_cons.mpr ⟨okM87, List.forall_mem_cons.mpr ⟨okM88, List.forall_mem_cons.mpr ⟨okM89, List.forall_mem_cons.mpr ⟨okM90, List.forall_mem_cons.mpr ⟨okM91, List.forall_mem_cons.mpr ⟨okM92, List.forall_mem_cons.mpr ⟨okM93, List.forall_mem_cons.mpr ⟨okM94, List.forall_mem_cons.mpr ⟨okM95, List.forall_mem_cons.mpr ⟨okM96, List.forall_mem_cons.mpr ⟨okM97, List.forall_mem_cons.mpr ⟨okM98, List.forall_mem_cons.mpr ⟨okM99, List.forall_mem_cons.mpr ⟨okM100, List.forall_mem_cons.mpr ⟨okM101, List.forall_mem_cons.mpr ⟨okM102, List.forall_mem_cons.mpr ⟨okM103, List.forall_mem_cons.mpr ⟨okM104, List.forall_mem_cons.mpr ⟨okM105, List.forall_mem_cons.mpr ⟨okM106, List.forall_mem_cons.mpr ⟨okM107, List.forall_mem_cons.mpr ⟨okM108, List.forall_mem_cons.mpr ⟨okM109, List.forall_mem_cons.mpr ⟨okM110, List.forall_mem_cons.mpr ⟨okM111, List.forall_mem_cons.mpr ⟨okM112, List.forall_mem_cons.mpr ⟨okM113, List.forall_mem_cons.mpr ⟨okM114, List.forall_mem_cons.mpr ⟨okM115, List.forall_mem_cons.mpr ⟨okM116, List.forall_mem_cons.mpr ⟨okM117, List.forall_mem_cons.mpr ⟨okM118, List.forall_mem_cons.mpr ⟨okM119, List.forall_mem_cons.mpr ⟨okM120, List.forall_mem_cons.mpr ⟨okM121, List.forall_mem_cons.mpr ⟨okM122, List.forall_mem_cons.mpr ⟨okM123, List.forall_mem_cons.mpr ⟨okM124, List.forall_mem_cons.mpr ⟨okM125, List.forall_mem_cons.mpr ⟨okM126, List.forall_mem_cons.mpr ⟨okM127, List.forall_mem_cons.mpr ⟨okM128, List.forall_mem_cons.mpr ⟨okM129, List.forall_mem_cons.mpr ⟨okM130, List.forall_mem_cons.mpr ⟨okM131, List.forall_mem_cons.mpr ⟨okM132, List.forall_mem_cons.mpr ⟨okM133, List.forall_mem_cons.mpr ⟨okM134, List.forall_mem_cons.mpr ⟨okM135, List.forall_mem_cons.mpr ⟨okM136, List.forall_mem_cons.mpr ⟨okM137, List.forall_mem_cons.mpr ⟨okM138, List.forall_mem_cons.mpr ⟨okM139, List.forall_mem_cons.mpr ⟨okM140, List.forall_mem_cons.mpr ⟨okM141, List.forall_mem_cons.mpr ⟨okM142, List.forall_mem_cons.mpr ⟨okM143, List.forall_mem_cons.mpr ⟨okM144, List.forall_mem_cons.mpr ⟨okM145, List.forall_mem_cons.mpr ⟨okM146, List.forall_mem_cons.mpr ⟨okM147, List.forall_mem_cons.mpr ⟨okM148, List.forall_mem_cons.mpr ⟨okM149, List.forall_mem_cons.mpr ⟨okM150, List.forall_mem_cons.mpr ⟨okM151, List.forall_mem_cons.mpr ⟨okM152, List.forall_mem_cons.mpr ⟨okM153, fun _ h => absurd h List.not_mem_nil⟩⟩⟩⟩⟩⟩⟩⟩⟩⟩⟩⟩⟩⟩⟩⟩⟩⟩⟩⟩⟩⟩⟩⟩⟩⟩⟩⟩⟩⟩⟩⟩⟩⟩⟩⟩⟩⟩⟩⟩⟩⟩⟩⟩⟩⟩⟩⟩⟩⟩⟩⟩⟩⟩⟩⟩⟩⟩⟩⟩⟩⟩⟩⟩⟩⟩⟩⟩⟩⟩⟩⟩⟩⟩⟩⟩⟩⟩⟩⟩⟩⟩⟩⟩⟩⟩⟩⟩⟩⟩⟩⟩⟩⟩⟩⟩⟩⟩⟩⟩⟩⟩⟩⟩⟩⟩⟩⟩⟩⟩⟩⟩⟩⟩⟩⟩⟩⟩⟩⟩⟩⟩⟩⟩⟩⟩⟩⟩⟩⟩⟩⟩⟩⟩⟩⟩⟩⟩⟩⟩⟩⟩⟩⟩⟩⟩⟩⟩⟩⟩⟩⟩⟩⟩
def okN (q : Nat × Nat × Nat) : Prop := if q.2.2 = 1000 then Cond.methodLink (cn q.1) q.2.1 Lib.Math.max.name ∈ gw else if q.2.2 = 1001 then Cond.methodLink (cn q.1) q.2.1 Lib.Math.min.name ∈ gw else if q.2.2 = 1002 then Cond.methodLink (cn q.1) q.2.1 arraycopyName ∈ gw else ∃ m : aM, mtt[q.2.2]? = some m ∧ Cond.methodLink (cn q.1) q.2.1 m.1 ∈ gw
set_option maxRecDepth 100000 in
theorem okN0 : okN (11, 13, 61) := ⟨_, rfl, gw_in (i := 352) (by decide +kernel) rfl⟩
set_option maxRecDepth 100000 in
theorem okN1 : okN (9, 73, 23) := ⟨_, rfl, gw_in (i := 357) (by decide +kernel) rfl⟩
set_option maxRecDepth 100000 in
theorem okN2 : okN (11, 18, 62) := ⟨_, rfl, gw_in (i := 362) (by decide +kernel) rfl⟩
set_option maxRecDepth 100000 in
theorem okN3 : okN (9, 82, 24) := ⟨_, rfl, gw_in (i := 366) (by decide +kernel) rfl⟩
set_option maxRecDepth 100000 in
theorem okN4 : okN (5, 29, 7) := ⟨_, rfl, gw_in (i := 370) (by decide +kernel) rfl⟩
set_option maxRecDepth 100000 in
theorem okN5 : okN (5, 38, 32) := ⟨_, rfl, gw_in (i := 374) (by decide +kernel) rfl⟩
set_option maxRecDepth 100000 in
theorem okN6 : okN (5, 44, 33) := ⟨_, rfl, gw_in (i := 378) (by decide +kernel) rfl⟩
set_option maxRecDepth 100000 in
theorem okN7 : okN (5, 41, 25) := ⟨_, rfl, gw_in (i := 382) (by decide +kernel) rfl⟩
set_option maxRecDepth 100000 in
theorem okN8 : okN (5, 48, 26) := ⟨_, rfl, gw_in (i := 386) (by decide +kernel) rfl⟩
set_option maxRecDepth 100000 in
theorem okN9 : okN (5, 65, 9) := ⟨_, rfl, gw_in (i := 390) (by decide +kernel) rfl⟩
set_option maxRecDepth 100000 in
theorem okN10 : okN (5, 52, 34) := ⟨_, rfl, gw_in (i := 394) (by decide +kernel) rfl⟩
set_option maxRecDepth 100000 in
theorem okN11 : okN (5, 56, 27) := ⟨_, rfl, gw_in (i := 398) (by decide +kernel) rfl⟩
set_option maxRecDepth 100000 in
theorem okN12 : okN (5, 75, 30) := ⟨_, rfl, gw_in (i := 402) (by decide +kernel) rfl⟩
set_option maxRecDepth 100000 in
theorem okN13 : okN (5, 105, 35) := ⟨_, rfl, gw_in (i := 406) (by decide +kernel) rfl⟩
set_option maxRecDepth 100000 in
theorem okN14 : okN (5, 91, 31) := ⟨_, rfl, gw_in (i := 409) (by decide +kernel) rfl⟩
set_option maxRecDepth 100000 in
theorem okN15 : okN (5, 59, 28) := ⟨_, rfl, gw_in (i := 413) (by decide +kernel) rfl⟩
set_option maxRecDepth 100000 in
theorem okN16 : okN (5, 94, 14) := ⟨_, rfl, gw_in (i := 417) (by decide +kernel) rfl⟩
set_option maxRecDepth 100000 in
theorem okN17 : okN (5, 62, 29) := ⟨_, rfl, gw_in (i := 421) (by decide +kernel) rfl⟩
set_option maxRecDepth 100000 in
theorem okN18 : okN (5, 98, 12) := ⟨_, rfl, gw_in (i := 425) (by decide +kernel) rfl⟩
set_option maxRecDepth 100000 in
theorem okN19 : okN (5, 101, 15) := ⟨_, rfl, gw_in (i := 429) (by decide +kernel) rfl⟩
set_option maxRecDepth 100000 in
theorem okN20 : okN (9, 89, 8) := ⟨_, rfl, gw_in (i := 433) (by decide +kernel) rfl⟩
set_option maxRecDepth 100000 in
theorem okN21 : okN (9, 93, 44) := ⟨_, rfl, gw_in (i := 440) (by decide +kernel) rfl⟩
set_option maxRecDepth 100000 in
theorem okN22 : okN (9, 96, 20) := ⟨_, rfl, gw_in (i := 444) (by decide +kernel) rfl⟩
set_option maxRecDepth 100000 in
theorem okN23 : okN (9, 99, 0) := ⟨_, rfl, gw_in (i := 448) (by decide +kernel) rfl⟩
set_option maxRecDepth 100000 in
theorem okN24 : okN (9, 100, 36) := ⟨_, rfl, gw_in (i := 452) (by decide +kernel) rfl⟩
set_option maxRecDepth 100000 in
theorem okN25 : okN (9, 101, 4) := ⟨_, rfl, gw_in (i := 456) (by decide +kernel) rfl⟩
set_option maxRecDepth 100000 in
theorem okN26 : okN (11, 23, 63) := ⟨_, rfl, gw_in (i := 460) (by decide +kernel) rfl⟩
set_option maxRecDepth 100000 in
theorem okN27 : okN (11, 27, 64) := ⟨_, rfl, gw_in (i := 464) (by decide +kernel) rfl⟩
set_option maxRecDepth 100000 in
theorem okN28 : okN (11, 31, 65) := ⟨_, rfl, gw_in (i := 468) (by decide +kernel) rfl⟩
set_option maxRecDepth 100000 in
theorem okN29 : okN (9, 147, 10) := ⟨_, rfl, gw_in (i := 472) (by decide +kernel) rfl⟩
set_option maxRecDepth 100000 in
theorem okN30 : okN (11, 36, 66) := ⟨_, rfl, gw_in (i := 477) (by decide +kernel) rfl⟩
set_option maxRecDepth 100000 in
theorem okN31 : okN (9, 167, 11) := ⟨_, rfl, gw_in (i := 481) (by decide +kernel) rfl⟩
set_option maxRecDepth 100000 in
theorem okN32 : okN (11, 40, 67) := ⟨_, rfl, gw_in (i := 485) (by decide +kernel) rfl⟩
set_option maxRecDepth 100000 in
theorem okN33 : okN (9, 173, 13) := ⟨_, rfl, gw_in (i := 489) (by decide +kernel) rfl⟩
set_option maxRecDepth 100000 in
theorem okN34 : okN (2, 52, 12) := ⟨_, rfl, gw_in (i := 493) (by decide +kernel) rfl⟩
set_option maxRecDepth 100000 in
theorem okN35 : okN (9, 176, 9) := ⟨_, rfl, gw_in (i := 494) (by decide +kernel) rfl⟩
set_option maxRecDepth 100000 in
theorem okN36 : okN (9, 182, 21) := ⟨_, rfl, gw_in (i := 497) (by decide +kernel) rfl⟩
set_option maxRecDepth 100000 in
theorem okN37 : okN (4, 25, 45) := ⟨_, rfl, gw_in (i := 501) (by decide +kernel) rfl⟩
set_option maxRecDepth 100000 in
theorem okN38 : okN (9, 186, 46) := ⟨_, rfl, gw_in (i := 509) (by decide +kernel) rfl⟩
set_option maxRecDepth 100000 in
theorem okN39 : okN (7, 51, 16) := ⟨_, rfl, gw_in (i := 513) (by decide +kernel) rfl⟩
set_option maxRecDepth 100000 in
theorem okN40 : okN (7, 55, 18) := ⟨_, rfl, gw_in (i := 521) (by decide +kernel) rfl⟩
set_option maxRecDepth 100000 in
theorem okN41 : okN (2, 69, 17) := ⟨_, rfl, gw_in (i := 525) (by decide +kernel) rfl⟩
set_option maxRecDepth 100000 in
theorem okN42 : okN (2, 65, 11) := ⟨_, rfl, gw_in (i := 529) (by decide +kernel) rfl⟩
set_option maxRecDepth 100000 in
theorem okN43 : okN (7, 69, 153) := ⟨_, rfl, gw_in (i := 532) (by decide +kernel) rfl⟩
set_option maxRecDepth 100000 in
theorem okN44 : okN (7, 75, 48) := ⟨_, rfl, gw_in (i := 538) (by decide +kernel) rfl⟩
set_option maxRecDepth 100000 in
theorem okN45 : okN (11, 45, 68) := ⟨_, rfl, gw_in (i := 542) (by decide +kernel) rfl⟩
set_option maxRecDepth 100000 in
theorem okN46 : okN (9, 190, 90) := ⟨_, rfl, gw_in (i := 546) (by decide +kernel) rfl⟩
set_option maxRecDepth 100000 in
theorem okN47 : okN (11, 49, 69) := ⟨_, rfl, gw_in (i := 550) (by decide +kernel) rfl⟩
set_option maxRecDepth 100000 in
theorem okN48 : okN (9, 194, 89) := ⟨_, rfl, gw_in (i := 554) (by decide +kernel) rfl⟩
set_option maxRecDepth 100000 in
theorem okN49 : okN (9, 197, 47) := ⟨_, rfl, gw_in (i := 558) (by decide +kernel) rfl⟩
set_option maxRecDepth 100000 in
theorem okN50 : okN (11, 53, 70) := ⟨_, rfl, gw_in (i := 562) (by decide +kernel) rfl⟩
set_option maxRecDepth 100000 in
theorem okN51 : okN (9, 200, 19) := ⟨_, rfl, gw_in (i := 566) (by decide +kernel) rfl⟩
set_option maxRecDepth 100000 in
theorem okN52 : okN (11, 57, 71) := ⟨_, rfl, gw_in (i := 574) (by decide +kernel) rfl⟩
set_option maxRecDepth 100000 in
theorem okN53 : okN (9, 203, 22) := ⟨_, rfl, gw_in (i := 578) (by decide +kernel) rfl⟩
set_option maxRecDepth 100000 in
theorem okN54 : okN (11, 61, 72) := ⟨_, rfl, gw_in (i := 582) (by decide +kernel) rfl⟩
set_option maxRecDepth 100000 in
theorem okN55 : okN (9, 207, 51) := ⟨_, rfl, gw_in (i := 586) (by decide +kernel) rfl⟩
set_option maxRecDepth 100000 in
theorem okN56 : okN (8, 37, 50) := ⟨_, rfl, gw_in (i := 590) (by decide +kernel) rfl⟩
set_option maxRecDepth 100000 in
theorem okN57 : okN (8, 45, 52) := ⟨_, rfl, gw_in (i := 595) (by decide +kernel) rfl⟩
set_option maxRecDepth 100000 in
theorem okN58 : okN (8, 54, 16) := ⟨_, rfl, gw_in (i := 599) (by decide +kernel) rfl⟩
set_option maxRecDepth 100000 in
theorem okN59 : okN (8, 61, 53) := ⟨_, rfl, gw_in (i := 600) (by decide +kernel) rfl⟩
set_option maxRecDepth 100000 in
theorem okN60 : okN (8, 65, 54) := ⟨_, rfl, gw_in (i := 605) (by decide +kernel) rfl⟩
set_option maxRecDepth 100000 in
theorem okN61 : okN (11, 65, 73) := ⟨_, rfl, gw_in (i := 609) (by decide +kernel) rfl⟩
set_option maxRecDepth 100000 in
theorem okN62 : okN (9, 217, 55) := ⟨_, rfl, gw_in (i := 613) (by decide +kernel) rfl⟩
set_option maxRecDepth 100000 in
theorem okN63 : okN (8, 78, 57) := ⟨_, rfl, gw_in (i := 617) (by decide +kernel) rfl⟩
set_option maxRecDepth 100000 in
theorem okN64 : okN (8, 86, 12) := ⟨_, rfl, gw_in (i := 621) (by decide +kernel) rfl⟩
set_option maxRecDepth 100000 in
theorem okN65 : okN (8, 90, 153) := ⟨_, rfl, gw_in (i := 622) (by decide +kernel) rfl⟩
set_option maxRecDepth 100000 in
theorem okN66 : okN (11, 69, 74) := ⟨_, rfl, gw_in (i := 623) (by decide +kernel) rfl⟩
set_option maxRecDepth 100000 in
theorem okN67 : okN (9, 221, 56) := ⟨_, rfl, gw_in (i := 627) (by decide +kernel) rfl⟩
set_option maxRecDepth 100000 in
theorem okN68 : okN (11, 73, 75) := ⟨_, rfl, gw_in (i := 632) (by decide +kernel) rfl⟩
set_option maxRecDepth 100000 in
theorem okN69 : okN (9, 224, 58) := ⟨_, rfl, gw_in (i := 636) (by decide +kernel) rfl⟩
set_option maxRecDepth 100000 in
theorem okN70 : okN (8, 95, 10) := ⟨_, rfl, gw_in (i := 640) (by decide +kernel) rfl⟩
set_option maxRecDepth 100000 in
theorem okN71 : okN (11, 77, 76) := ⟨_, rfl, gw_in (i := 642) (by decide +kernel) rfl⟩
set_option maxRecDepth 100000 in
theorem okN72 : okN (9, 227, 59) := ⟨_, rfl, gw_in (i := 646) (by decide +kernel) rfl⟩
set_option maxRecDepth 100000 in
theorem okN73 : okN (8, 108, 60) := ⟨_, rfl, gw_in (i := 650) (by decide +kernel) rfl⟩
set_option maxRecDepth 100000 in
theorem okN74 : okN (11, 81, 77) := ⟨_, rfl, gw_in (i := 654) (by decide +kernel) rfl⟩
set_option maxRecDepth 100000 in
theorem okN75 : okN (9, 231, 49) := ⟨_, rfl, gw_in (i := 658) (by decide +kernel) rfl⟩
set_option maxRecDepth 100000 in
theorem okN76 : okN (11, 85, 78) := ⟨_, rfl, gw_in (i := 662) (by decide +kernel) rfl⟩
set_option maxRecDepth 100000 in
theorem okN77 : okN (11, 89, 79) := ⟨_, rfl, gw_in (i := 666) (by decide +kernel) rfl⟩
set_option maxRecDepth 100000 in
theorem okN78 : okN (11, 94, 80) := ⟨_, rfl, gw_in (i := 673) (by decide +kernel) rfl⟩
set_option maxRecDepth 100000 in
theorem okN79 : okN (9, 247, 37) := ⟨_, rfl, gw_in (i := 677) (by decide +kernel) rfl⟩
set_option maxRecDepth 100000 in
theorem okN80 : okN (11, 98, 81) := ⟨_, rfl, gw_in (i := 681) (by decide +kernel) rfl⟩
set_option maxRecDepth 100000 in
theorem okN81 : okN (9, 250, 39) := ⟨_, rfl, gw_in (i := 685) (by decide +kernel) rfl⟩
set_option maxRecDepth 100000 in
theorem okN82 : okN (6, 29, 38) := ⟨_, rfl, gw_in (i := 689) (by decide +kernel) rfl⟩
set_option maxRecDepth 100000 in
theorem okN83 : okN (6, 23, 17) := ⟨_, rfl, gw_in (i := 693) (by decide +kernel) rfl⟩
set_option maxRecDepth 100000 in
theorem okN84 : okN (9, 254, 40) := ⟨_, rfl, gw_in (i := 694) (by decide +kernel) rfl⟩
set_option maxRecDepth 100000 in
theorem okN85 : okN (6, 33, 39) := ⟨_, rfl, gw_in (i := 698) (by decide +kernel) rfl⟩
set_option maxRecDepth 100000 in
theorem okN86 : okN (9, 257, 41) := ⟨_, rfl, gw_in (i := 699) (by decide +kernel) rfl⟩
set_option maxRecDepth 100000 in
theorem okN87 : okN (6, 37, 153) := ⟨_, rfl, gw_in (i := 703) (by decide +kernel) rfl⟩
set_option maxRecDepth 100000 in
theorem okN88 : okN (11, 102, 82) := ⟨_, rfl, gw_in (i := 704) (by decide +kernel) rfl⟩
set_option maxRecDepth 100000 in
theorem okN89 : okN (9, 261, 42) := ⟨_, rfl, gw_in (i := 708) (by decide +kernel) rfl⟩
set_option maxRecDepth 100000 in
theorem okN90 : okN (6, 45, 43) := ⟨_, rfl, gw_in (i := 712) (by decide +kernel) rfl⟩
set_option maxRecDepth 100000 in
theorem okN91 : okN (11, 106, 83) := ⟨_, rfl, gw_in (i := 717) (by decide +kernel) rfl⟩
set_option maxRecDepth 100000 in
theorem okN92 : okN (9, 264, 5) := ⟨_, rfl, gw_in (i := 721) (by decide +kernel) rfl⟩
set_option maxRecDepth 100000 in
theorem okN93 : okN (11, 110, 84) := ⟨_, rfl, gw_in (i := 725) (by decide +kernel) rfl⟩
set_option maxRecDepth 100000 in
theorem okN94 : okN (11, 114, 85) := ⟨_, rfl, gw_in (i := 729) (by decide +kernel) rfl⟩
set_option maxRecDepth 100000 in
theorem okN95 : okN (9, 267, 6) := ⟨_, rfl, gw_in (i := 733) (by decide +kernel) rfl⟩
set_option maxRecDepth 100000 in
theorem okN96 : okN (11, 118, 86) := ⟨_, rfl, gw_in (i := 737) (by decide +kernel) rfl⟩
set_option maxRecDepth 100000 in
theorem okN97 : okN (11, 122, 87) := ⟨_, rfl, gw_in (i := 741) (by decide +kernel) rfl⟩
set_option maxRecDepth 100000 in
theorem okN98 : okN (9, 274, 1) := ⟨_, rfl, gw_in (i := 745) (by decide +kernel) rfl⟩
set_option maxRecDepth 100000 in
theorem okN99 : okN (9, 277, 2) := ⟨_, rfl, gw_in (i := 749) (by decide +kernel) rfl⟩
set_option maxRecDepth 100000 in
theorem okN100 : okN (0, 26, 1) := ⟨_, rfl, gw_in (i := 753) (by decide +kernel) rfl⟩
set_option maxRecDepth 100000 in
theorem okN101 : okN (0, 30, 45) := ⟨_, rfl, gw_in (i := 754) (by decide +kernel) rfl⟩
set_option maxRecDepth 100000 in
theorem okN102 : okN (11, 126, 88) := ⟨_, rfl, gw_in (i := 755) (by decide +kernel) rfl⟩
set_option maxRecDepth 100000 in
theorem okN103 : okN (9, 281, 3) := ⟨_, rfl, gw_in (i := 759) (by decide +kernel) rfl⟩
set_option maxRecDepth 100000 in
theorem okN104 : okN (11, 17, 99) := ⟨_, rfl, gw_in (i := 890) (by decide +kernel) rfl⟩
set_option maxRecDepth 100000 in
theorem okN105 : okN (10, 87, 91) := ⟨_, rfl, gw_in (i := 895) (by decide +kernel) rfl⟩
set_option maxRecDepth 100000 in
theorem okN106 : okN (11, 22, 109) := ⟨_, rfl, gw_in (i := 900) (by decide +kernel) rfl⟩
set_option maxRecDepth 100000 in
theorem okN107 : okN (10, 104, 100) := ⟨_, rfl, gw_in (i := 904) (by decide +kernel) rfl⟩
set_option maxRecDepth 100000 in
theorem okN108 : okN (10, 153, 107) := ⟨_, rfl, gw_in (i := 908) (by decide +kernel) rfl⟩
set_option maxRecDepth 100000 in
theorem okN109 : okN (10, 112, 101) := ⟨_, rfl, gw_in (i := 912) (by decide +kernel) rfl⟩
set_option maxRecDepth 100000 in
theorem okN110 : okN (10, 135, 104) := ⟨_, rfl, gw_in (i := 916) (by decide +kernel) rfl⟩
set_option maxRecDepth 100000 in
theorem okN111 : okN (10, 125, 103) := ⟨_, rfl, gw_in (i := 920) (by decide +kernel) rfl⟩
set_option maxRecDepth 100000 in
theorem okN112 : okN (10, 122, 102) := ⟨_, rfl, gw_in (i := 924) (by decide +kernel) rfl⟩
set_option maxRecDepth 100000 in
theorem okN113 : okN (10, 138, 105) := ⟨_, rfl, gw_in (i := 930) (by decide +kernel) rfl⟩
set_option maxRecDepth 100000 in
theorem okN114 : okN (10, 141, 106) := ⟨_, rfl, gw_in (i := 934) (by decide +kernel) rfl⟩
set_option maxRecDepth 100000 in
theorem okN115 : okN (10, 156, 108) := ⟨_, rfl, gw_in (i := 938) (by decide +kernel) rfl⟩
set_option maxRecDepth 100000 in
theorem okN116 : okN (11, 26, 110) := ⟨_, rfl, gw_in (i := 942) (by decide +kernel) rfl⟩
set_option maxRecDepth 100000 in
theorem okN117 : okN (11, 30, 111) := ⟨_, rfl, gw_in (i := 946) (by decide +kernel) rfl⟩
set_option maxRecDepth 100000 in
theorem okN118 : okN (11, 35, 112) := ⟨_, rfl, gw_in (i := 950) (by decide +kernel) rfl⟩
set_option maxRecDepth 100000 in
theorem okN119 : okN (10, 168, 96) := ⟨_, rfl, gw_in (i := 954) (by decide +kernel) rfl⟩
set_option maxRecDepth 100000 in
theorem okN120 : okN (11, 39, 113) := ⟨_, rfl, gw_in (i := 959) (by decide +kernel) rfl⟩
set_option maxRecDepth 100000 in
theorem okN121 : okN (10, 173, 97) := ⟨_, rfl, gw_in (i := 963) (by decide +kernel) rfl⟩
set_option maxRecDepth 100000 in
theorem okN122 : okN (11, 44, 119) := ⟨_, rfl, gw_in (i := 967) (by decide +kernel) rfl⟩
set_option maxRecDepth 100000 in
theorem okN123 : okN (10, 202, 98) := ⟨_, rfl, gw_in (i := 971) (by decide +kernel) rfl⟩
set_option maxRecDepth 100000 in
theorem okN124 : okN (10, 207, 118) := ⟨_, rfl, gw_in (i := 977) (by decide +kernel) rfl⟩
set_option maxRecDepth 100000 in
theorem okN125 : okN (10, 210, 117) := ⟨_, rfl, gw_in (i := 981) (by decide +kernel) rfl⟩
set_option maxRecDepth 100000 in
theorem okN126 : okN (10, 186, 114) := ⟨_, rfl, gw_in (i := 985) (by decide +kernel) rfl⟩
set_option maxRecDepth 100000 in
theorem okN127 : okN (10, 176, 92) := ⟨_, rfl, gw_in (i := 989) (by decide +kernel) rfl⟩
set_option maxRecDepth 100000 in
theorem okN128 : okN (10, 180, 95) := ⟨_, rfl, gw_in (i := 992) (by decide +kernel) rfl⟩
set_option maxRecDepth 100000 in
theorem okN129 : okN (10, 183, 94) := ⟨_, rfl, gw_in (i := 995) (by decide +kernel) rfl⟩
set_option maxRecDepth 100000 in
theorem okN130 : okN (10, 190, 115) := ⟨_, rfl, gw_in (i := 998) (by decide +kernel) rfl⟩
set_option maxRecDepth 100000 in
theorem okN131 : okN (10, 195, 93) := ⟨_, rfl, gw_in (i := 1002) (by decide +kernel) rfl⟩
set_option maxRecDepth 100000 in
theorem okN132 : okN (10, 199, 116) := ⟨_, rfl, gw_in (i := 1005) (by decide +kernel) rfl⟩
set_option maxRecDepth 100000 in
theorem okN133 : okN (11, 48, 120) := ⟨_, rfl, gw_in (i := 1009) (by decide +kernel) rfl⟩
set_option maxRecDepth 100000 in
theorem okN134 : okN (11, 52, 122) := ⟨_, rfl, gw_in (i := 1013) (by decide +kernel) rfl⟩
set_option maxRecDepth 100000 in
theorem okN135 : okN (10, 216, 121) := ⟨_, rfl, gw_in (i := 1017) (by decide +kernel) rfl⟩
set_option maxRecDepth 100000 in
theorem okN136 : okN (11, 56, 124) := ⟨_, rfl, gw_in (i := 1022) (by decide +kernel) rfl⟩
set_option maxRecDepth 100000 in
theorem okN137 : okN (10, 229, 123) := ⟨_, rfl, gw_in (i := 1026) (by decide +kernel) rfl⟩
set_option maxRecDepth 100000 in
theorem okN138 : okN (11, 60, 125) := ⟨_, rfl, gw_in (i := 1034) (by decide +kernel) rfl⟩
set_option maxRecDepth 100000 in
theorem okN139 : okN (11, 64, 131) := ⟨_, rfl, gw_in (i := 1038) (by decide +kernel) rfl⟩
set_option maxRecDepth 100000 in
theorem okN140 : okN (10, 248, 130) := ⟨_, rfl, gw_in (i := 1042) (by decide +kernel) rfl⟩
set_option maxRecDepth 100000 in
theorem okN141 : okN (10, 235, 126) := ⟨_, rfl, gw_in (i := 1046) (by decide +kernel) rfl⟩
set_option maxRecDepth 100000 in
theorem okN142 : okN (10, 241, 128) := ⟨_, rfl, gw_in (i := 1050) (by decide +kernel) rfl⟩
set_option maxRecDepth 100000 in
theorem okN143 : okN (10, 232, 127) := ⟨_, rfl, gw_in (i := 1054) (by decide +kernel) rfl⟩
set_option maxRecDepth 100000 in
theorem okN144 : okN (10, 244, 129) := ⟨_, rfl, gw_in (i := 1058) (by decide +kernel) rfl⟩
set_option maxRecDepth 100000 in
theorem okN145 : okN (11, 68, 133) := ⟨_, rfl, gw_in (i := 1062) (by decide +kernel) rfl⟩
set_option maxRecDepth 100000 in
theorem okN146 : okN (10, 252, 132) := ⟨_, rfl, gw_in (i := 1067) (by decide +kernel) rfl⟩
set_option maxRecDepth 100000 in
theorem okN147 : okN (11, 72, 134) := ⟨_, rfl, gw_in (i := 1071) (by decide +kernel) rfl⟩
set_option maxRecDepth 100000 in
theorem okN148 : okN (11, 76, 135) := ⟨_, rfl, gw_in (i := 1075) (by decide +kernel) rfl⟩
set_option maxRecDepth 100000 in
theorem okN149 : okN (11, 80, 137) := ⟨_, rfl, gw_in (i := 1079) (by decide +kernel) rfl⟩
set_option maxRecDepth 100000 in
theorem okN150 : okN (10, 255, 136) := ⟨_, rfl, gw_in (i := 1083) (by decide +kernel) rfl⟩
set_option maxRecDepth 100000 in
theorem okN151 : okN (11, 84, 139) := ⟨_, rfl, gw_in (i := 1087) (by decide +kernel) rfl⟩
set_option maxRecDepth 100000 in
theorem okN152 : okN (10, 258, 138) := ⟨_, rfl, gw_in (i := 1091) (by decide +kernel) rfl⟩
set_option maxRecDepth 100000 in
theorem okN153 : okN (11, 88, 140) := ⟨_, rfl, gw_in (i := 1096) (by decide +kernel) rfl⟩
set_option maxRecDepth 100000 in
theorem okN154 : okN (11, 93, 141) := ⟨_, rfl, gw_in (i := 1100) (by decide +kernel) rfl⟩
set_option maxRecDepth 100000 in
theorem okN155 : okN (11, 97, 142) := ⟨_, rfl, gw_in (i := 1106) (by decide +kernel) rfl⟩
set_option maxRecDepth 100000 in
theorem okN156 : okN (11, 101, 145) := ⟨_, rfl, gw_in (i := 1110) (by decide +kernel) rfl⟩
set_option maxRecDepth 100000 in
theorem okN157 : okN (10, 270, 144) := ⟨_, rfl, gw_in (i := 1114) (by decide +kernel) rfl⟩
set_option maxRecDepth 100000 in
theorem okN158 : okN (10, 267, 143) := ⟨_, rfl, gw_in (i := 1118) (by decide +kernel) rfl⟩
set_option maxRecDepth 100000 in
theorem okN159 : okN (11, 105, 146) := ⟨_, rfl, gw_in (i := 1122) (by decide +kernel) rfl⟩
set_option maxRecDepth 100000 in
theorem okN160 : okN (11, 109, 147) := ⟨_, rfl, gw_in (i := 1126) (by decide +kernel) rfl⟩
set_option maxRecDepth 100000 in
theorem okN161 : okN (11, 113, 148) := ⟨_, rfl, gw_in (i := 1131) (by decide +kernel) rfl⟩
set_option maxRecDepth 100000 in
theorem okN162 : okN (11, 117, 149) := ⟨_, rfl, gw_in (i := 1135) (by decide +kernel) rfl⟩
set_option maxRecDepth 100000 in
theorem okN163 : okN (11, 121, 150) := ⟨_, rfl, gw_in (i := 1139) (by decide +kernel) rfl⟩
set_option maxRecDepth 100000 in
theorem okN164 : okN (11, 125, 151) := ⟨_, rfl, gw_in (i := 1143) (by decide +kernel) rfl⟩
set_option maxRecDepth 100000 in
theorem okN165 : okN (11, 129, 152) := ⟨_, rfl, gw_in (i := 1147) (by decide +kernel) rfl⟩
theorem okN166 : okN (2, 46, 1002) := gw_in (i := 437) (by decide +kernel) rfl
theorem okN167 : okN (7, 45, 1002) := gw_in (i := 505) (by decide +kernel) rfl
theorem okN168 : okN (4, 29, 1001) := gw_in (i := 506) (by decide +kernel) rfl
theorem okN169 : okN (2, 56, 1000) := gw_in (i := 517) (by decide +kernel) rfl
theorem okN170 : okN (2, 62, 1001) := gw_in (i := 520) (by decide +kernel) rfl
theorem okN171 : okN (7, 61, 1001) := gw_in (i := 531) (by decide +kernel) rfl
theorem okN172 : okN (9, 235, 1000) := gw_in (i := 549) (by decide +kernel) rfl
theorem okN173 : okN (8, 31, 1002) := gw_in (i := 594) (by decide +kernel) rfl
theorem okN174 : okN (8, 72, 1000) := gw_in (i := 604) (by decide +kernel) rfl
theorem okN175 : okN (8, 102, 1001) := gw_in (i := 641) (by decide +kernel) rfl
theorem okN176 : okN (9, 240, 1001) := gw_in (i := 670) (by decide +kernel) rfl
theorem okN177 : okN (6, 49, 1000) := gw_in (i := 716) (by decide +kernel) rfl
set_option maxRecDepth 100000 in
theorem mlt_ok : ∀ q ∈ mlt, okN q := List.forall_mem_cons.mpr ⟨okN0, List.forall_mem_cons.mpr ⟨okN1, List.forall_mem_cons.mpr ⟨okN2, List.forall_mem_cons.mpr ⟨okN3, List.forall_mem_cons.mpr ⟨okN4, List.forall_mem_cons.mpr ⟨okN5, List.forall_mem_cons.mpr ⟨okN6, List.forall_mem_cons.mpr ⟨okN7, List.forall_mem_cons.mpr ⟨okN8, List.forall_mem_cons.mpr ⟨okN9, List.forall_mem_cons.mpr ⟨okN10, List.forall_mem_cons.mpr ⟨okN11, List.forall_mem_cons.mpr ⟨okN12, List.forall_mem_cons.mpr ⟨okN13, List.forall_mem_cons.mpr ⟨okN14, List.forall_mem_cons.mpr ⟨okN15, List.forall_mem_cons.mpr ⟨okN16, List.forall_mem_cons.mpr ⟨okN17, List.forall_mem_cons.mpr ⟨okN18, List.forall_mem_cons.mpr ⟨okN19, List.forall_mem_cons.mpr ⟨okN20, List.forall_mem_cons.mpr ⟨okN21, List.forall_mem_cons.mpr ⟨okN22, List.forall_mem_cons.mpr ⟨okN23, List.forall_mem_cons.mpr ⟨okN24, List.forall_mem_cons.mpr ⟨okN25, List.forall_mem_cons.mpr ⟨okN26, List.forall_mem_cons.mpr ⟨okN27, List.forall_mem_cons.mpr ⟨okN28, List.forall_mem_cons.mpr ⟨okN29, List.forall_mem_cons.mpr ⟨okN30, List.forall_mem_cons.mpr ⟨okN31, List.forall_mem_cons.mpr ⟨okN32, List.forall_mem_cons.mpr ⟨okN33, List.forall_mem_cons.mpr ⟨okN34, List.forall_mem_cons.mpr ⟨okN35, List.forall_mem_cons.mpr ⟨okN36, List.forall_mem_cons.mpr ⟨okN37, List.forall_mem_cons.mpr ⟨okN38, List.forall_mem_cons.mpr ⟨okN39, List.forall_mem_cons.mpr ⟨okN40, List.forall_mem_cons.mpr ⟨okN41, List.forall_mem_cons.mpr ⟨okN42, List.forall_mem_cons.mpr ⟨okN43, List.forall_mem_cons.mpr ⟨okN44, List.forall_mem_cons.mpr ⟨okN45, List.forall_mem_cons.mpr ⟨okN46, List.forall_mem_cons.mpr ⟨okN47, List.forall_mem_cons.mpr ⟨okN48, List.forall_mem_cons.mpr ⟨okN49, List.forall_mem_cons.mpr ⟨okN50, List.forall_mem_cons.mpr ⟨okN51, List.forall_mem_cons.mpr ⟨okN52, List.forall_mem_cons.mpr ⟨okN53, List.forall_mem_cons.mpr ⟨okN54, List.forall_mem_cons.mpr ⟨okN55, List.forall_mem_cons.mpr ⟨okN56, List.forall_mem_cons.mpr ⟨okN57, List.forall_mem_cons.mpr ⟨okN58, List.forall_mem_cons.mpr ⟨okN59, List.forall_mem_cons.mpr ⟨okN60, List.forall_mem_cons.mpr ⟨okN61, List.forall_mem_cons.mpr ⟨okN62, List.forall_mem_cons.mpr ⟨okN63, List.forall_mem_cons.mpr ⟨okN64, List.forall_mem_cons.mpr ⟨okN65, List.forall_mem_cons.mpr ⟨okN66, List.forall_mem_cons.mpr ⟨okN67, List.forall_mem_cons.mpr ⟨okN68, List.forall_mem_cons.mpr ⟨okN69, List.forall_mem_cons.mpr ⟨okN70, List.forall_mem_cons.mpr ⟨okN71, List.forall_mem_cons.mpr ⟨okN72, List.forall_mem_cons.mpr ⟨okN73, List.forall_mem_cons.mpr ⟨okN74, List.forall_mem_cons.mpr ⟨okN75, List.forall_mem_cons.mpr ⟨okN76, List.forall_mem_cons.mpr ⟨okN77, List.forall_mem_cons.mpr ⟨okN78, List.forall_mem_cons.mpr ⟨okN79, List.forall_mem_cons.mpr ⟨okN80, List.forall_mem_cons.mpr ⟨okN81, List.forall_mem_cons.mpr ⟨okN82, List.forall_mem_cons.mpr ⟨okN83, List.forall_mem_cons.mpr ⟨okN84, List.forall_mem_cons.mpr ⟨okN85, List.forall_mem_cons.mpr ⟨okN86, List.forall_mem_cons.mpr ⟨okN87, List.forall_mem_cons.mpr ⟨okN88, List.forall_mem_cons.mpr ⟨okN89, List.forall_mem_cons.mpr ⟨okN90, List.forall_mem_cons.mpr ⟨okN91, List.forall_mem_cons.mpr ⟨okN92, List.forall_mem_cons.mpr ⟨okN93, List.forall_mem_cons.mpr ⟨okN94, List.forall_mem_cons.mpr ⟨okN95, List.forall_mem_cons.mpr ⟨okN96, List.forall_mem_cons.mpr ⟨okN97, List.forall_mem_cons.mpr ⟨okN98, List.forall_mem_cons.mpr ⟨okN99, List.forall_mem_cons.mpr ⟨okN100, List.forall_mem_cons.mpr ⟨okN101, List.forall_mem_cons.mpr ⟨okN102, List.forall_mem_cons.mpr ⟨okN103, List.forall_mem_cons.mpr ⟨okN104, List.forall_mem_cons.mpr ⟨okN105, List.forall_mem_cons.mpr ⟨okN106, List.forall_mem_cons.mpr ⟨okN107, List.forall_mem_cons.mpr ⟨okN108, List.forall_mem_cons.mpr ⟨okN109, List.forall_mem_cons.mpr ⟨okN110, List.forall_mem_cons.mpr ⟨okN111, List.forall_mem_cons.mpr ⟨okN112, List.forall_mem_cons.mpr ⟨okN113, List.forall_mem_cons.mpr ⟨okN114, List.forall_mem_cons.mpr ⟨okN115, List.forall_mem_cons.mpr ⟨okN116, List.forall_mem_cons.mpr ⟨okN117, List.forall_mem_cons.mpr ⟨okN118, List.forall_mem_cons.mpr ⟨okN119, List.forall_mem_cons.mpr ⟨okN120, List.forall_mem_cons.mpr ⟨okN121, List.forall_mem_cons.mpr ⟨okN122, List.forall_mem_cons.mpr ⟨okN123, List.forall_mem_cons.mpr ⟨okN124, List.forall_mem_cons.mpr ⟨okN125, List.forall_mem_cons.mpr ⟨okN126, List.forall_mem_cons.mpr ⟨okN127, List.forall_mem_cons.mpr ⟨okN128, List.forall_mem_cons.mpr ⟨okN129, List.forall_mem_cons.mpr ⟨okN130, List.forall_mem_cons.mpr ⟨okN131, List.forall_mem_cons.mpr ⟨okN132, List.forall_mem_cons.mpr ⟨okN133, List.forall_mem_cons.mpr ⟨okN134, List.forall_mem_cons.mpr ⟨okN135, List.forall_mem_cons.mpr ⟨okN136, List.forall_mem_cons.mpr ⟨okN137, List.forall_mem_cons.mpr ⟨okN138, List.forall_mem_cons.mpr ⟨okN139, List.forall_mem_cons.mpr ⟨okN140, List.forall_mem_cons.mpr ⟨okN141, List.forall_mem_cons.mpr ⟨okN142, List.forall_mem_cons.mpr ⟨okN143, List.forall_mem_cons.mpr ⟨okN144, List.forall_mem_cons.mpr ⟨okN145, List.forall_mem_cons.mpr ⟨okN146, List.forall_mem_cons.mpr ⟨okN147, List.forall_mem_cons.mpr ⟨okN148, List.forall_mem_cons.mpr ⟨okN149, List.forall_mem_cons.mpr ⟨okN150, List.forall_mem_cons.mpr ⟨okN151, List.forall_mem_cons.mpr ⟨okN152, List.forall_mem_cons.mpr ⟨okN153, List.forall_mem_cons.mpr ⟨okN154, List.forall_mem_cons.mpr ⟨okN155, List.forall_mem_cons.mpr ⟨okN156, List.forall_mem_cons.mpr ⟨okN157, List.forall_mem_cons.mpr ⟨okN158, List.forall_mem_cons.mpr ⟨okN159, List.forall_mem_cons.mpr ⟨okN160, List.forall_mem_cons.mpr ⟨okN161, List.forall_mem_cons.mpr ⟨okN162, List.forall_mem_cons.mpr ⟨okN163, List.forall_mem_cons.mpr ⟨okN164, List.forall_mem_cons.mpr ⟨okN165, List.forall_mem_cons.mpr ⟨okN166, List.forall_mem_cons.mpr ⟨okN167, List.forall_mem_cons.mpr ⟨okN168, List.forall_mem_cons.mpr ⟨okN169, List.forall_mem_cons.mpr ⟨okN170, List.forall_mem_cons.mpr ⟨okN171, List.forall_mem_cons.mpr ⟨okN172, List.forall_mem_cons.mpr ⟨okN173, List.forall_mem_cons.mpr ⟨okN174, List.forall_mem_cons.mpr ⟨okN175, List.forall_mem_cons.mpr ⟨okN176, List.forall_mem_cons.mpr ⟨okN177, fun _ h => absurd h List.not_mem_nil⟩⟩⟩⟩⟩⟩⟩⟩⟩⟩⟩⟩⟩⟩⟩⟩⟩⟩⟩⟩⟩⟩⟩⟩⟩⟩⟩⟩⟩⟩⟩⟩⟩⟩⟩⟩⟩⟩⟩⟩⟩⟩⟩⟩⟩⟩⟩⟩⟩⟩⟩⟩⟩⟩⟩⟩⟩⟩⟩⟩⟩⟩⟩⟩⟩⟩⟩⟩⟩⟩⟩⟩⟩⟩⟩⟩⟩⟩⟩⟩⟩⟩⟩⟩⟩⟩⟩⟩⟩⟩⟩⟩⟩⟩⟩⟩⟩⟩⟩⟩⟩⟩⟩⟩⟩⟩⟩⟩⟩⟩⟩⟩⟩⟩⟩⟩⟩⟩⟩⟩⟩⟩⟩⟩⟩⟩⟩⟩⟩⟩⟩⟩⟩⟩⟩⟩⟩⟩⟩⟩⟩⟩⟩⟩⟩⟩⟩⟩⟩⟩⟩⟩⟩⟩⟩⟩⟩⟩⟩⟩⟩⟩⟩⟩⟩⟩⟩⟩⟩⟩⟩⟩⟩⟩⟩⟩⟩⟩
end
section
/-! THE ABSTRACT MACHINE: the cells of the class and of the reference have a fixed shape once both are made; what changes is ints. A state is aW: place, index ↦ int. -/
abbrev aW : Type := Nat → Nat → Int32
abbrev aL : Type := List (Option Value)
abbrev aR : Type := (Nat × aL × List Value × aW) ⊕ (Option Value ⊕ (Nat × List Value × List Value))
abbrev aG : Type := va_G × (Nat → Nat) × (Nat → ClassId)
def cls (p : Nat) : Nat := match shl[p]? with
  | some (.inl q) => q.1
  | _ => 99
def slt (p k : Nat) : Option (Option Nat) := match shl[p]? with
  | some (.inl q) => q.2[k]?
  | _ => none
def rf (p k : Nat) : Nat := match slt p k with
  | some (some t) => t
  | _ => 0
def akd (p : Nat) : Nat := match shl[p]? with
  | some (.inr q) => q.1
  | _ => 99
def aln (p : Nat) : Nat := match shl[p]? with
  | some (.inr q) => q.2.1
  | _ => 0
def rel (p i : Nat) : Nat := match shl[p]? with
  | some (.inr q) => q.2.2.getD i 0
  | _ => 0
def su (σ : aW) (a k : Nat) (v : Int32) : aW := fun a' => if a' = a then upd (σ a) k v else σ a'
def sy (σ : aW) (a b sp dp n : Nat) : aW := fun a' => if a' = b then va_cpy (σ a) (σ b) sp dp n else σ a'
def fl (o i : Nat) : Option (Nat × Nat) := (flt.find? (fun q => q.1 == o && q.2.1 == i)).map (fun q => q.2.2)
def kl (o i : Nat) : Option Int32 := (klt.find? (fun q => q.1 == o && q.2.1 == i)).map (fun q => q.2.2)
def kL (o i : Nat) : Option Int64 := (kLt.find? (fun q => q.1 == o && q.2.1 == i)).map (fun q => q.2.2)
def ml (o i : Nat) : Option Nat := (mlt.find? (fun q => q.1 == o && q.2.1 == i)).map (fun q => q.2.2)
def nl (v : Option Value) : Bool := match v with
  | some (.long _) => false
  | some (.double _) => false
  | _ => true
def lok (ls : aL) (k : Nat) : Bool := match k with
  | 0 => true
  | k + 1 => nl (ls[k]?).join
def rsz : List Value → Nat
  | [] => 0
  | v :: t => v.category + rsz t
def nx (pc : Nat) (ls : aL) (st : List Value) (σ : aW) : Option aR := some (.inl (pc, ls, st, σ))
def tg (pc : Nat) (off : Int) : Nat := ((pc : Int) + off).toNat
def bin (f : Int32 → Int32 → Int32) (pc : Nat) (ls : aL) (st : List Value) (σ : aW) : Option aR := match st with
  | .int y :: .int x :: r => nx (pc + 1) ls (.int (f x y) :: r) σ
  | _ => none
def binL (f : Int64 → Int64 → Int64) (pc : Nat) (ls : aL) (st : List Value) (σ : aW) : Option aR := match st with
  | .long y :: .long x :: r => nx (pc + 1) ls (.long (f x y) :: r) σ
  | _ => none
def ldI (k : Nat) (pc : Nat) (ls : aL) (st : List Value) (σ : aW) : Option aR := match (ls[k]?).join with
  | some (.int x) => nx pc ls (.int x :: st) σ
  | _ => none
def ldL (k : Nat) (pc : Nat) (ls : aL) (st : List Value) (σ : aW) : Option aR := match (ls[k]?).join with
  | some (.long x) => nx pc ls (.long x :: st) σ
  | _ => none
def ldA (k : Nat) (pc : Nat) (ls : aL) (st : List Value) (σ : aW) : Option aR := match (ls[k]?).join with
  | some (.ref x) => nx pc ls (.ref x :: st) σ
  | _ => none
def stI (k : Nat) (pc : Nat) (ls : aL) (st : List Value) (σ : aW) : Option aR := match st with
  | .int x :: r => if lok ls k = true ∧ k < ls.length then nx pc (ls.set k (some (.int x))) r σ else none
  | _ => none
def stA (k : Nat) (pc : Nat) (ls : aL) (st : List Value) (σ : aW) : Option aR := match st with
  | .ref x :: r => if lok ls k = true ∧ k < ls.length then nx pc (ls.set k (some (.ref x))) r σ else none
  | _ => none
def stL (k : Nat) (pc : Nat) (ls : aL) (st : List Value) (σ : aW) : Option aR := match st with
  | .long x :: r => if lok ls k = true ∧ k + 1 < ls.length then nx pc ((ls.set k (some (.long x))).set (k + 1) none) r σ else none
  | _ => none
def ccI (c : ClassFile.Cond) (x y : Int32) : Bool := match c with
  | .eq => decide (x = y)
  | .ne => !decide (x = y)
  | .lt => decide (x < y)
  | .ge => decide (y ≤ x)
  | .gt => decide (y < x)
  | .le => decide (x ≤ y)
def brI (b : Bool) (off : Int) (pc : Nat) (ls : aL) (r : List Value) (σ : aW) : Option aR := if 0 ≤ (pc : Int) + off then nx (if b then tg pc off else pc + 3) ls r σ else none
def tsw (dflt lo hi : Int) (offs : Array Int) (x : Int32) : Option Int := if x.toInt < lo ∨ hi < x.toInt then some dflt else offs[(x.toInt - lo).toNat]?
def gtF (o i pc : Nat) (ls : aL) (st : List Value) (σ : aW) : Option aR := match st with
  | .ref a :: r => match fl o i with
    | some q => if cls a = q.1 then match slt a q.2 with
        | some none => nx (pc + 3) ls (.int (σ a q.2) :: r) σ
        | some (some t) => nx (pc + 3) ls (.ref t :: r) σ
        | none => none
      else none
    | none => none
  | _ => none
def ptF (o i pc : Nat) (ls : aL) (st : List Value) (σ : aW) : Option aR := match st with
  | .int v :: .ref a :: r => match fl o i with
    | some q => if cls a = q.1 ∧ slt a q.2 = some none then nx (pc + 3) ls r (su σ a q.2 v) else none
    | none => none
  | _ => none
def ald (sc : Option (Nat × (Nat → Int32))) (kd : Nat) (pc : Nat) (ls : aL) (st : List Value) (σ : aW) : Option aR := match st with
  | .int i :: .ref a :: r => if akd a = kd then (if i < 0 ∨ aln a ≤ i.toNatClampNeg then none else nx (pc + 1) ls (.int (σ a i.toNatClampNeg) :: r) σ)
      else if a = NP ∧ kd = 0 then match sc with
        | some q => if i < 0 ∨ q.1 ≤ i.toNatClampNeg then none else nx (pc + 1) ls (.int (q.2 i.toNatClampNeg) :: r) σ
        | none => none
      else none
  | _ => none
def ast (kd : Nat) (h : Int32 → Int32) (pc : Nat) (ls : aL) (st : List Value) (σ : aW) : Option aR := match st with
  | .int x :: .int i :: .ref a :: r => if akd a = kd then (if i < 0 ∨ aln a ≤ i.toNatClampNeg then none else nx (pc + 1) ls r (su σ a i.toNatClampNeg (h x))) else none
  | _ => none
def aald (pc : Nat) (ls : aL) (st : List Value) (σ : aW) : Option aR := match st with
  | .int i :: .ref a :: r => if akd a = 2 ∨ akd a = 3 then (if i < 0 ∨ aln a ≤ i.toNatClampNeg then none else nx (pc + 1) ls (.ref (rel a i.toNatClampNeg) :: r) σ) else none
  | _ => none
def cpy (pc : Nat) (ls : aL) (st : List Value) (σ : aW) : Option aR := match st with
  | .int n :: .int dp :: .ref b :: .int sp :: .ref a :: r => if akd a = 0 ∧ akd b = 0 ∧ ¬ sp < 0 ∧ ¬ dp < 0 ∧ ¬ n < 0 ∧ sp.toNatClampNeg + n.toNatClampNeg ≤ aln a ∧ dp.toNatClampNeg + n.toNatClampNeg ≤ aln b ∧ rsz r ≤ 8 then nx (pc + 3) ls r (sy σ a b sp.toNatClampNeg dp.toNatClampNeg n.toNatClampNeg) else none
  | _ => none
def mm2 (f : Int32 → Int32 → Int32) (pc : Nat) (ls : aL) (st : List Value) (σ : aW) : Option aR := match st with
  | .int y :: .int x :: r => if rsz r ≤ 8 then nx (pc + 3) ls (.int (f x y) :: r) σ else none
  | _ => none
def clV (j : Nat) (st : List Value) : Option aR := match mtt[j]? with
  | some m => match st.drop m.2.2.2.2.1 with
    | .ref a :: r => if m.2.2.2.2.2.2 = false ∧ cls a = m.2.2.2.2.2.1 ∧ rsz r ≤ 8 ∧ m.2.2.2.2.1 ≤ st.length then some (.inr (.inr (j, .ref a :: (st.take m.2.2.2.2.1).reverse, r))) else none
    | _ => none
  | none => none
def clS (j : Nat) (st : List Value) : Option aR := match mtt[j]? with
  | some m => if m.2.2.2.2.2.2 = true ∧ rsz (st.drop m.2.2.2.2.1) ≤ 8 ∧ m.2.2.2.2.1 ≤ st.length then some (.inr (.inr (j, (st.take m.2.2.2.2.1).reverse, st.drop m.2.2.2.2.1))) else none
  | none => none
def ivS (o i pc : Nat) (ls : aL) (st : List Value) (σ : aW) : Option aR := match ml o i with
  | some 1000 => mm2 (fun x y => if x < y then y else x) pc ls st σ
  | some 1001 => mm2 (fun x y => if y < x then y else x) pc ls st σ
  | some 1002 => cpy pc ls st σ
  | some j => clS j st
  | none => match nlt.find? (fun q => q.1 == o && q.2.1 == i) with
    | some q => clS q.2.2 st
    | none => none
def rtI (ty : Option FieldType) (st : List Value) : Option aR := match st with
  | [.int v] => if ty = some .int ∨ (ty = some .boolean ∧ (v = 0 ∨ v = 1)) then some (.inr (.inl (some (.int v)))) else none
  | _ => none
def rtV (ty : Option FieldType) (st : List Value) : Option aR := match st with
  | [] => if ty = none then some (.inr (.inl none)) else none
  | _ => none
def cnv (pc : Nat) (ls : aL) (st : List Value) (σ : aW) : Option aR := match st with
  | .int x :: r => nx (pc + 1) ls (.long x.toInt64 :: r) σ
  | _ => none
def cnvL (pc : Nat) (ls : aL) (st : List Value) (σ : aW) : Option aR := match st with
  | .long x :: r => nx (pc + 1) ls (.int x.toInt32 :: r) σ
  | _ => none
def lcm (pc : Nat) (ls : aL) (st : List Value) (σ : aW) : Option aR := match st with
  | .long y :: .long x :: r => nx (pc + 1) ls (.int (lg_cmp x y) :: r) σ
  | _ => none
def divI (f : Int32 → Int32 → Int32) (pc : Nat) (ls : aL) (st : List Value) (σ : aW) : Option aR := match st with
  | .int y :: .int x :: r => if y = 0 then none else nx (pc + 1) ls (.int (f x y) :: r) σ
  | _ => none
def divL (f : Int64 → Int64 → Int64) (pc : Nat) (ls : aL) (st : List Value) (σ : aW) : Option aR := match st with
  | .long y :: .long x :: r => if y = 0 then none else nx (pc + 1) ls (.long (f x y) :: r) σ
  | _ => none
def du1 (pc : Nat) (ls : aL) (st : List Value) (σ : aW) : Option aR := match st with
  | v :: r => if v.category = 1 then nx (pc + 1) ls (v :: v :: r) σ else none
  | _ => none
def pp1 (pc : Nat) (ls : aL) (st : List Value) (σ : aW) : Option aR := match st with
  | v :: r => if v.category = 1 then nx (pc + 1) ls r σ else none
  | _ => none
def du2 (pc : Nat) (ls : aL) (st : List Value) (σ : aW) : Option aR := match st with
  | v :: w :: r => if v.category = 1 ∧ w.category = 1 then nx (pc + 1) ls (v :: w :: v :: w :: r) σ else none
  | _ => none
def inc (k : Nat) (n : Int) (pc : Nat) (ls : aL) (st : List Value) (σ : aW) : Option aR := match (ls[k]?).join with
  | some (.int x) => if lok ls k = true ∧ k < ls.length then nx (pc + 3) (ls.set k (some (.int (x + Int32.ofInt n)))) st σ else none
  | _ => none
def if1 (c : ClassFile.Cond) (off : Int) (pc : Nat) (ls : aL) (st : List Value) (σ : aW) : Option aR := match st with
  | .int x :: r => brI (ccI c x 0) off pc ls r σ
  | _ => none
def if2 (c : ClassFile.Cond) (off : Int) (pc : Nat) (ls : aL) (st : List Value) (σ : aW) : Option aR := match st with
  | .int y :: .int x :: r => brI (ccI c x y) off pc ls r σ
  | _ => none
def ifn (b : Bool) (off : Int) (pc : Nat) (ls : aL) (st : List Value) (σ : aW) : Option aR := match st with
  | .ref _ :: r => brI b off pc ls r σ
  | _ => none
def swt (dflt lo hi : Int) (offs : Array Int) (pc : Nat) (ls : aL) (st : List Value) (σ : aW) : Option aR := match st with
  | .int x :: r => match tsw dflt lo hi offs x with
    | some off => if 0 ≤ (pc : Int) + off then nx (tg pc off) ls r σ else none
    | none => none
  | _ => none
def aln1 (sc : Option (Nat × (Nat → Int32))) (pc : Nat) (ls : aL) (st : List Value) (σ : aW) : Option aR := match st with
  | .ref a :: r => if a = NP then match sc with
      | some q => nx (pc + 1) ls (.int (Int32.ofNat q.1) :: r) σ
      | none => none
    else none
  | _ => none
def ivV (o i : Nat) (st : List Value) : Option aR := match ml o i with
  | some j => clV j st
  | none => none
def stepA (sc : Option (Nat × (Nat → Int32))) (o : Nat) (ty : Option FieldType) (i : Instr) (pc : Nat) (ls : aL) (st : List Value) (σ : aW) : Option aR := match i with
  | .iconst n => nx (pc + 1) ls (.int (Int32.ofInt n) :: st) σ
  | .bipush n => nx (pc + 2) ls (.int (Int8.ofInt n).toInt32 :: st) σ
  | .sipush n => nx (pc + 3) ls (.int (Int16.ofInt n).toInt32 :: st) σ
  | .lconst n => nx (pc + 1) ls (.long (Int64.ofNat (n : Nat)) :: st) σ
  | .ldc x => (kl o x).bind fun v => nx (pc + 2) ls (.int v :: st) σ
  | .ldc_w x => (kl o x).bind fun v => nx (pc + 3) ls (.int v :: st) σ
  | .ldc2_w x => (kL o x).bind fun v => nx (pc + 3) ls (.long v :: st) σ
  | .iload_n k => ldI k (pc + 1) ls st σ
  | .iload k => ldI k (pc + 2) ls st σ
  | .lload_n k => ldL k (pc + 1) ls st σ
  | .lload k => ldL k (pc + 2) ls st σ
  | .aload_n k => ldA k (pc + 1) ls st σ
  | .aload k => ldA k (pc + 2) ls st σ
  | .istore_n k => stI k (pc + 1) ls st σ
  | .istore k => stI k (pc + 2) ls st σ
  | .lstore_n k => stL k (pc + 1) ls st σ
  | .lstore k => stL k (pc + 2) ls st σ
  | .astore_n k => stA k (pc + 1) ls st σ
  | .astore k => stA k (pc + 2) ls st σ
  | .iinc k n => inc k n pc ls st σ
  | .iadd => bin (fun x y => x + y) pc ls st σ
  | .isub => bin (fun x y => x - y) pc ls st σ
  | .imul => bin (fun x y => x * y) pc ls st σ
  | .iand => bin (fun x y => x &&& y) pc ls st σ
  | .ior => bin (fun x y => x ||| y) pc ls st σ
  | .ixor => bin (fun x y => x ^^^ y) pc ls st σ
  | .ishl => bin (fun x y => x <<< (y &&& 31)) pc ls st σ
  | .ishr => bin (fun x y => x >>> (y &&& 31)) pc ls st σ
  | .iushr => bin (fun x y => (x.toUInt32 >>> (y.toUInt32 &&& Int32.toUInt32 31)).toInt32) pc ls st σ
  | .idiv => divI (fun x y => x / y) pc ls st σ
  | .irem => divI (fun x y => x - x / y * y) pc ls st σ
  | .ladd => binL (fun x y => x + y) pc ls st σ
  | .lmul => binL (fun x y => x * y) pc ls st σ
  | .land => binL (fun x y => x &&& y) pc ls st σ
  | .ldiv => divL (fun x y => x / y) pc ls st σ
  | .lrem => divL (fun x y => x - x / y * y) pc ls st σ
  | .i2l => cnv pc ls st σ
  | .l2i => cnvL pc ls st σ
  | .lcmp => lcm pc ls st σ
  | .dup => du1 pc ls st σ
  | .pop => pp1 pc ls st σ
  | .dup2 => du2 pc ls st σ
  | .ifCond c off => if1 c off pc ls st σ
  | .if_icmp c off => if2 c off pc ls st σ
  | .ifnull off => ifn false off pc ls st σ
  | .ifnonnull off => ifn true off pc ls st σ
  | .goto off => brI true off pc ls st σ
  | .tableswitch dflt lo hi offs => swt dflt lo hi offs pc ls st σ
  | .getfield i => gtF o i pc ls st σ
  | .putfield i => ptF o i pc ls st σ
  | .iaload => ald sc 0 pc ls st σ
  | .baload => ald none 1 pc ls st σ
  | .iastore => ast 0 (fun x => x) pc ls st σ
  | .bastore => ast 1 (vp_nar .boolean) pc ls st σ
  | .aaload => aald pc ls st σ
  | .arraylength => aln1 sc pc ls st σ
  | .invokevirtual i => ivV o i st
  | .invokestatic i => ivS o i pc ls st σ
  | .ireturn => rtI ty st
  | .return_ => rtV ty st
  | _ => none
def lenI (i : Instr) (len : Nat) : Nat := match i with
  | .bipush _ => 2
  | .ldc _ => 2
  | .iload _ => 2
  | .istore _ => 2
  | .lload _ => 2
  | .lstore _ => 2
  | .aload _ => 2
  | .astore _ => 2
  | .sipush _ => 3
  | .ldc_w _ => 3
  | .ldc2_w _ => 3
  | .iinc _ _ => 3
  | .ifCond _ _ => 3
  | .if_icmp _ _ => 3
  | .ifnull _ => 3
  | .ifnonnull _ => 3
  | .goto _ => 3
  | .getfield _ => 3
  | .putfield _ => 3
  | .invokevirtual _ => 3
  | .invokestatic _ => 3
  | .tableswitch _ _ _ _ => len
  | _ => 1
def rv (ad : Nat → Nat) (v : Value) : Value := match v with
  | .ref a => .ref (ad a)
  | w => w
def rfs (ad : Nat → Nat) (f : Nat → Int32) (sl : List (Option Nat)) : List Value := sl.mapIdx (fun k o => match o with
  | none => .int (f k)
  | some t => .ref (ad t))
def rc (g : aG) (p : Nat) (f : Nat → Int32) : va_E := match shl[p]? with
  | some (.inl q) => .inr (q.1, rfs g.2.1 f q.2)
  | some (.inr q) => .inl (g.2.2 q.1, q.2.1, if q.1 < 2 then .inl f else .inr (.inr (.inr (.inr (fun i => (q.2.2[i]?).map g.2.1)))))
  | none => .inr (0, [])
def rws (g : aG) (σ : aW) : va_W := (List.range NP).map (fun p => (g.2.1 p, rc g p (σ p)))
def atys (g : aG) : List (ClassId × FieldType) := [(g.2.2 0, .int), (g.2.2 1, .boolean), (g.2.2 2, .object RX7), (g.2.2 3, .array .int)]
def nw0 : Cond := .methodLinkNest (cn (nlt.getD 0 (0, 0, 0)).1) (nlt.getD 0 (0, 0, 0)).2.1 yX9_afterCoffee RX9
def RD (d : Nat) : Room := { frames := d, cells := 0, slots := 0, locals := 100 * d }
def aPre (g : aG) (sz : Nat) (as : List Value) (σ : aW) : Array Value → State → Prop := va_Pc (as.map (rv g.2.1)) (fun U => U.heap.size = sz ∧ va_P g.1 classes (rws g σ) U.heap ∧ va_K g.1 classes (atys g) U ∧ va_Nw nw0 U ∧ va_D (fun _ => True) (rws g σ))
def aPost (g : aG) (sz : Nat) (σ : aW) (r : Option Value) (σ' : aW) : Array Value → State → Outcome → State → Prop := fun _ st oc t => (oc = .returned (r.map (rv g.2.1)) ∧ va_P g.1 classes (rws g σ') t.heap) ∧ va_F (va_A (rws g σ) sz) st t
def Sem (l : Launch) (d j : Nat) (as : List Value) (σ : aW) (r : Option Value) (σ' : aW) : Prop :=
  ∃ m : aM, mtt[j]? = some m ∧ ∀ (g : aG) (sz : Nat), Met l m.1 (Cond.code m.1 m.2.1 m.2.2.1 m.2.2.2.1 :: gw) (RD d) (aPre g sz as σ) (aPost g sz σ r σ') 0 0 (va_A (rws g σ) sz)
def aC (l : Launch) (d j : Nat) (as : List Value) (σ : aW) (post : Option Value → aW → Prop) : Prop := ∃ r σ', Sem l d j as σ r σ' ∧ post r σ'
theorem aC.of {l : Launch} {d j : Nat} {as : List Value} {σ σ' : aW} {r : Option Value} {post : Option Value → aW → Prop} (h : Sem l d j as σ r σ') (k : post r σ') : aC l d j as σ post := ⟨r, σ', h, k⟩
theorem aC.mono {l : Launch} {d j : Nat} {as : List Value} {σ : aW} {P P' : Option Value → aW → Prop} (h : aC l d j as σ P) (k : ∀ r σ', P r σ' → P' r σ') : aC l d j as σ P' := by
  obtain ⟨r, σ', h1, h2⟩ := h
  exact ⟨r, σ', h1, k r σ' h2⟩
def XR (l : Launch) (d : Nat) (Q : Option Value → aW → Prop) (pc : Nat) (ls : aL) (σ : aW) (K : Nat → aL → List Value → aW → Prop) (r : Option aR) : Prop := match r with
  | none => False
  | some (.inl q) => K q.1 q.2.1 q.2.2.1 q.2.2.2
  | some (.inr (.inl v)) => Q v σ
  | some (.inr (.inr q)) => aC l d q.1 q.2.1 σ (fun r σ' => K (pc + 3) ls (r.toList ++ q.2.2) σ')
def aX (l : Launch) (d : Nat) (sc : Option (Nat × (Nat → Int32))) (o : Nat) (cc : ByteArray) (ty : Option FieldType) (Q : Option Value → aW → Prop) : Nat → Nat → aL → List Value → aW → Prop
  | 0, _, _, _, _ => False
  | n + 1, pc, ls, st, σ => ∃ i len, decode cc pc = .ok (i, len) ∧ len = lenI i len ∧ XR l d Q pc ls σ (aX l d sc o cc ty Q n) (stepA sc o ty i pc ls st σ)
def aE (l : Launch) (d : Nat) (sc : Option (Nat × (Nat → Int32))) (o : Nat) (cc : ByteArray) (ty : Option FieldType) (Q : Option Value → aW → Prop) (pc : Nat) (ls : aL) (st : List Value) (σ : aW) : Prop := ∃ n, aX l d sc o cc ty Q n pc ls st σ
theorem E_of {l : Launch} {d : Nat} {sc : Option (Nat × (Nat → Int32))} {o : Nat} {cc : ByteArray} {ty : Option FieldType} {Q : Option Value → aW → Prop} {pc : Nat} {i : Instr} {len : Nat} (hd : decode cc pc = .ok (i, len)) (hl : len = lenI i len) (ls : aL) (st : List Value) (σ : aW) :
    aE l d sc o cc ty Q pc ls st σ = XR l d Q pc ls σ (aE l d sc o cc ty Q) (stepA sc o ty i pc ls st σ) := by
  apply propext
  constructor
  · rintro ⟨n, h⟩
    cases n with
    | zero => exact h.elim
    | succ n =>
      obtain ⟨i', len', h1, h2, h3⟩ := h
      rw [hd] at h1
      cases h1
      revert h3
      generalize stepA sc o ty i pc ls st σ = r
      rcases r with _ | ⟨q⟩ | ⟨v⟩ | ⟨q⟩
      · exact fun h => h
      · exact fun h => ⟨n, h⟩
      · exact fun h => h
      · rintro ⟨r, σ', a, b⟩
        exact ⟨r, σ', a, n, b⟩
  · intro h3
    have key : ∃ n, XR l d Q pc ls σ (aX l d sc o cc ty Q n) (stepA sc o ty i pc ls st σ) := by
      revert h3
      generalize stepA sc o ty i pc ls st σ = r
      rcases r with _ | ⟨q⟩ | ⟨v⟩ | ⟨q⟩
      · exact fun h => h.elim
      · rintro ⟨n, h⟩
        exact ⟨n, h⟩
      · exact fun h => ⟨0, h⟩
      · rintro ⟨r, σ', a, n, b⟩
        exact ⟨n, r, σ', a, b⟩
    obtain ⟨n, h⟩ := key
    exact ⟨n + 1, i, len, hd, hl, h⟩
/-- an answer can be named -/
theorem X_ex {l : Launch} {d : Nat} {sc : Option (Nat × (Nat → Int32))} {o : Nat} {cc : ByteArray} {ty : Option FieldType} {Q : Option Value → aW → Prop} : ∀ (n pc : Nat) (ls : aL) (st : List Value) (σ : aW), aX l d sc o cc ty Q n pc ls st σ → ∃ r σ', aX l d sc o cc ty (fun r' σ'' => r' = r ∧ σ'' = σ') n pc ls st σ ∧ Q r σ' := by
  intro n
  induction n with
  | zero => exact fun _ _ _ _ h => h.elim
  | succ n ih =>
    intro pc ls st σ h
    obtain ⟨i, len, h1, h2, h3⟩ := h
    have key : ∃ r σ', XR l d (fun r' σ'' => r' = r ∧ σ'' = σ') pc ls σ (aX l d sc o cc ty (fun r' σ'' => r' = r ∧ σ'' = σ') n) (stepA sc o ty i pc ls st σ) ∧ Q r σ' := by
      revert h3
      generalize stepA sc o ty i pc ls st σ = r
      rcases r with _ | ⟨q⟩ | ⟨v⟩ | ⟨q⟩
      · exact fun h => h.elim
      · exact fun h => ih _ _ _ _ h
      · exact fun h => ⟨v, σ, ⟨rfl, rfl⟩, h⟩
      · rintro ⟨r, σ', a, b⟩
        obtain ⟨r2, σ2, c1, c2⟩ := ih _ _ _ _ b
        exact ⟨r2, σ2, ⟨r, σ', a, c1⟩, c2⟩
    obtain ⟨r, σ', a, b⟩ := key
    exact ⟨r, σ', ⟨i, len, h1, h2, a⟩, b⟩
end
section
/-! SOUNDNESS of the abstract machine: what aX says of a run, the machine does, in every heap that holds the shape. -/
theorem rws_at (g : aG) (σ : aW) {p : Nat} (h : p < NP) : (rws g σ)[p]? = some (g.2.1 p, rc g p (σ p)) := by
  unfold rws
  rw [List.getElem?_map, List.getElem?_range h]
  rfl
theorem rws_len (g : aG) (σ : aW) : (rws g σ).length = NP := by simp [rws]
theorem rws_inv {g : aG} {σ : aW} {i : Nat} {q : Nat × va_E} (h : (rws g σ)[i]? = some q) : i < NP ∧ q = (g.2.1 i, rc g i (σ i)) := by
  have hi : i < (rws g σ).length := (List.getElem?_eq_some_iff.mp h).1
  rw [rws_len] at hi
  rw [rws_at g σ hi] at h
  exact ⟨hi, (Option.some.inj h).symm⟩
theorem rws_set {g : aG} {σ : aW} {p : Nat} {f : Nat → Int32} (h : p < NP) : (rws g σ).set p (g.2.1 p, rc g p f) = rws g (fun a => if a = p then f else σ a) := by
  apply List.ext_getElem?
  intro i
  rw [List.getElem?_set]
  by_cases hi : p = i
  · subst hi
    rw [if_pos rfl, if_pos (by rw [rws_len]; exact h), rws_at _ _ h, if_pos rfl]
  · rw [if_neg hi]
    by_cases hn : i < NP
    · rw [rws_at _ _ hn, rws_at _ _ hn, if_neg (Ne.symm hi)]
    · rw [List.getElem?_eq_none (by rw [rws_len]; omega), List.getElem?_eq_none (by rw [rws_len]; omega)]
theorem rws_D {g : aG} {σ : aW} {A : Nat → Prop} (hinj : ∀ i j, i < NP → j < NP → g.2.1 i = g.2.1 j → i = j) (hAd : ∀ i, i < NP → A (g.2.1 i)) : va_D A (rws g σ) := by
  refine ⟨fun i j p q h1 h2 h3 => ?_, fun k q h => ?_⟩
  · obtain ⟨a1, rfl⟩ := rws_inv h1
    obtain ⟨b1, rfl⟩ := rws_inv h2
    exact hinj i j a1 b1 h3
  · obtain ⟨a1, rfl⟩ := rws_inv h
    exact hAd k a1
theorem rws_A {g : aG} {σ σ' : aW} {sz : Nat} {q : Nat} (h : va_A (rws g σ) sz q) : va_A (rws g σ') sz q := by
  rcases h with ⟨k, e, h⟩ | h
  · obtain ⟨a1, a2⟩ := rws_inv h
    cases a2
    exact Or.inl ⟨k, _, rws_at g σ' a1⟩
  · exact Or.inr h
theorem shl_lt {a : Nat} {q : aS} (h : shl[a]? = some q) : a < NP := by
  have := (List.getElem?_eq_some_iff.mp h).1
  rw [shl_len] at this
  exact this
theorem cls_spec {a ci : Nat} (h : cls a = ci) (hc : ci ≠ 99) : ∃ sl, shl[a]? = some (.inl (ci, sl)) := by
  unfold cls at h
  split at h
  · next q hq => exact ⟨q.2, by rw [hq, ← h]⟩
  · exact absurd h.symm hc
theorem akd_spec {a k : Nat} (h : akd a = k) (hc : k ≠ 99) : ∃ n t, shl[a]? = some (.inr (k, n, t)) ∧ aln a = n := by
  unfold akd at h
  split at h
  · next q hq => exact ⟨q.2.1, q.2.2, by rw [hq, ← h], by unfold aln; rw [hq]⟩
  · exact absurd h.symm hc
theorem slt_at {a ci : Nat} {sl : List (Option Nat)} (h : shl[a]? = some (.inl (ci, sl))) (k : Nat) : slt a k = sl[k]? := by
  unfold slt
  rw [h]
def layB (q : aS) : Bool := match q with
  | .inl q => match classes[q.1]? with
    | some r => (List.range q.2.length).all (fun k => match q.2[k]? with
      | some none => decide ((r.2.1 k).2.2.2 = false) && decide ((r.2.1 k).2.2.1 = "I")
      | _ => true)
    | none => false
  | .inr q => decide (q.1 < 4) && (decide (q.1 < 2) || decide (q.2.2.length = q.2.1))
theorem lay_all : shl.all layB = true := by decide +kernel
theorem lay_ok {a ci k : Nat} {sl : List (Option Nat)} (h : shl[a]? = some (.inl (ci, sl))) (hk : sl[k]? = some none) {C : String} {T : u_T} {N : Nat} (hc : classes[ci]? = some (C, T, N)) : (T k).2.2.2 = false ∧ (T k).2.2.1 = "I" := by
  have h1 := List.all_eq_true.mp lay_all _ (List.mem_of_getElem? h)
  unfold layB at h1
  simp only [hc] at h1
  have hl : k < sl.length := (List.getElem?_eq_some_iff.mp hk).1
  have h2 := List.all_eq_true.mp h1 k (List.mem_range.mpr hl)
  simp only [hk, Bool.and_eq_true, decide_eq_true_eq] at h2
  exact h2
theorem lay_arr {a k n : Nat} {t : List Nat} (h : shl[a]? = some (.inr (k, n, t))) : k < 4 ∧ (k < 2 ∨ t.length = n) := by
  have h1 := List.all_eq_true.mp lay_all _ (List.mem_of_getElem? h)
  unfold layB at h1
  simp only [Bool.and_eq_true, Bool.or_eq_true, decide_eq_true_eq] at h1
  exact h1
theorem rfs_at (ad : Nat → Nat) (f : Nat → Int32) (sl : List (Option Nat)) (k : Nat) : (rfs ad f sl)[k]? = (sl[k]?).map (fun o => match o with
  | none => .int (f k)
  | some t => .ref (ad t)) := by
  unfold rfs
  rw [List.getElem?_mapIdx]
  cases sl[k]? with
  | none => rfl
  | some x => cases x <;> rfl
theorem rfs_set (ad : Nat → Nat) (f : Nat → Int32) (sl : List (Option Nat)) (k : Nat) (v : Int32) (hk : sl[k]? = some none) : (rfs ad f sl).set k (.int v) = rfs ad (upd f k v) sl := by
  apply List.ext_getElem?
  intro i
  rw [List.getElem?_set]
  have hl : k < sl.length := (List.getElem?_eq_some_iff.mp hk).1
  by_cases hi : k = i
  · subst hi
    rw [if_pos rfl, if_pos (by simp [rfs]; exact hl), rfs_at, hk]
    simp [upd]
  · rw [if_neg hi, rfs_at, rfs_at]
    cases sl[i]? with
    | none => rfl
    | some x =>
      cases x with
      | none => simp [upd, Ne.symm hi]
      | some t => rfl
theorem rv_cat (ad : Nat → Nat) (v : Value) : (rv ad v).category = v.category := by cases v <;> rfl
theorem rsz_map (ad : Nat → Nat) : ∀ st : List Value, ((st.map (rv ad)).map (fun v => v.category)).sum = rsz st
  | [] => rfl
  | v :: t => by
    show (rv ad v).category + ((t.map (rv ad)).map (fun v => v.category)).sum = _
    rw [rv_cat, rsz_map ad t]
    rfl
def lo_has (ad : Nat → Nat) (ls' : Array Slot) (nL : Nat) (ls : aL) : Prop := ls.length = nL ∧ ls'.size = nL ∧ lv_wf ls' ∧ ∀ (k : Nat) (v : Value), ls[k]? = some (some v) → ls'[k]? = some (.val (rv ad v))
def lvl (ad : Nat → Nat) (ls : aL) : List (Nat × Value) := (List.range ls.length).filterMap (fun k => ((ls[k]?).join).map (fun v => (k, rv ad v)))
theorem lvl_mem {ad : Nat → Nat} {ls : aL} {q : Nat × Value} : q ∈ lvl ad ls ↔ ∃ v, ls[q.1]? = some (some v) ∧ q.2 = rv ad v := by
  unfold lvl
  rw [List.mem_filterMap]
  constructor
  · rintro ⟨k, -, h⟩
    cases hj : ls[k]? with
    | none => rw [hj] at h; cases h
    | some x =>
      cases x with
      | none => rw [hj] at h; cases h
      | some v =>
        rw [hj] at h
        cases h
        exact ⟨v, hj, rfl⟩
  · rintro ⟨v, h1, h2⟩
    refine ⟨q.1, List.mem_range.mpr (List.getElem?_eq_some_iff.mp h1).1, ?_⟩
    rw [h1]
    show some (q.1, rv ad v) = some q
    rw [← h2]
theorem lo_has.lv {ad : Nat → Nat} {ls' : Array Slot} {nL : Nat} {ls : aL} (h : lo_has ad ls' nL ls) : lv_has ls' nL (lvl ad ls) := by
  refine ⟨h.2.1, h.2.2.1, fun q hq => ?_⟩
  obtain ⟨v, h1, h2⟩ := lvl_mem.mp hq
  rw [h2]
  exact h.2.2.2 _ _ h1
theorem join_at {ls : aL} {k : Nat} {v : Value} (h : (ls[k]?).join = some v) : ls[k]? = some (some v) := by
  cases hj : ls[k]? with
  | none => rw [hj] at h; cases h
  | some x => rw [hj] at h; rw [show x = some v from h]
theorem lok_cat {ls : aL} {i k : Nat} {v : Value} (h : lok ls i = true) (hk : ls[k]? = some (some v)) (e : k + 1 = i) : v.category ≠ 2 := by
  subst e
  have h : nl (ls[k]?).join = true := h
  rw [hk] at h
  cases v <;> first | exact absurd h Bool.false_ne_true | (intro q; cases q)
theorem lo_set1 {ad : Nat → Nat} {ls'' : Array Slot} {nL i : Nat} {ls : aL} {v : Value} (hlen : ls.length = nL) (hi : i < nL) (hok : lok ls i = true) (h : lv_has ls'' nL ((i, rv ad v) :: (lvl ad ls).filter (fun q => !(q.1 == i) && !(q.1 + 1 == i && q.2.category == 2)))) : lo_has ad ls'' nL (ls.set i (some v)) := by
  refine ⟨by simp [hlen], h.1, h.2.1, fun k w hk => ?_⟩
  rw [List.getElem?_set] at hk
  by_cases e : i = k
  · subst e
    rw [if_pos rfl, if_pos (by rw [hlen]; exact hi)] at hk
    cases hk
    exact h.2.2 (i, rv ad v) List.mem_cons_self
  · rw [if_neg e] at hk
    refine h.2.2 (k, rv ad w) (List.mem_cons_of_mem _ (List.mem_filter.mpr ⟨lvl_mem.mpr ⟨w, hk, rfl⟩, ?_⟩))
    have e1 : (k == i) = false := by simp; exact fun q => e q.symm
    have e2 : (k + 1 == i && (rv ad w).category == 2) = false := by
      by_cases e3 : k + 1 = i
      · have := lok_cat hok hk e3
        rw [rv_cat]
        simp [this]
      · simp [e3]
    simp only [e1, e2]
    rfl
theorem lo_set2 {ad : Nat → Nat} {ls'' : Array Slot} {nL i : Nat} {ls : aL} {v : Value} (hlen : ls.length = nL) (hi : i + 1 < nL) (hok : lok ls i = true) (h : lv_has ls'' nL ((i, rv ad v) :: (lvl ad ls).filter (fun q => !(q.1 == i) && (!(q.1 == i + 1) && !(q.1 + 1 == i && q.2.category == 2))))) : lo_has ad ls'' nL ((ls.set i (some v)).set (i + 1) none) := by
  refine ⟨by simp [hlen], h.1, h.2.1, fun k w hk => ?_⟩
  rw [List.getElem?_set] at hk
  by_cases e0 : i + 1 = k
  · rw [if_pos e0] at hk
    split at hk <;> cases hk
  · rw [if_neg e0, List.getElem?_set] at hk
    by_cases e : i = k
    · subst e
      rw [if_pos rfl, if_pos (by rw [hlen]; omega)] at hk
      cases hk
      exact h.2.2 (i, rv ad v) List.mem_cons_self
    · rw [if_neg e] at hk
      refine h.2.2 (k, rv ad w) (List.mem_cons_of_mem _ (List.mem_filter.mpr ⟨lvl_mem.mpr ⟨w, hk, rfl⟩, ?_⟩))
      have e1 : (k == i) = false := by simp; exact fun q => e q.symm
      have e4 : (k == i + 1) = false := by simp; exact fun q => e0 q.symm
      have e2 : (k + 1 == i && (rv ad w).category == 2) = false := by
        by_cases e3 : k + 1 = i
        · have := lok_cat hok hk e3
          rw [rv_cat]
          simp [this]
        · simp [e3]
      simp only [e1, e2, e4]
      rfl
end
section
def okC (q : vw_C) : Prop := (∀ w ∈ u_ws q.1 q.2.1 q.2.2, w ∈ gw) ∧ (∃ ty0 : Nat → FieldType, ∀ k, k < q.2.2 → parseFieldDescriptor (q.2.1 k).2.2.1 = some (ty0 k)) ∧ (∀ a, a < q.2.2 → ∀ b, b < q.2.2 → a ≠ b → (q.2.1 a).2.1 ≠ (q.2.1 b).2.1)
theorem okC_in {C : String} {T : u_T} {N : Nat} (h : ∀ w ∈ u_ws C T N, w ∈ lw_tbl) : ∀ w ∈ u_ws C T N, w ∈ gw := by
  intro w hw
  refine List.mem_filter.mpr ⟨h w hw, ?_⟩
  obtain ⟨k, -, rfl⟩ := List.mem_map.mp hw
  unfold u_lay
  split <;> rfl
theorem inw0 : ∀ w ∈ u_ws RX0 TX0 3, w ∈ lw_tbl := by decide +kernel
theorem inw1 : ∀ w ∈ u_ws RX1 TX1 3, w ∈ lw_tbl := by decide +kernel
theorem inw2 : ∀ w ∈ u_ws RX2 TX2 11, w ∈ lw_tbl := by decide +kernel
theorem inw3 : ∀ w ∈ u_ws RX3 TX3 1, w ∈ lw_tbl := by decide +kernel
theorem inw4 : ∀ w ∈ u_ws RX4 TX4 3, w ∈ lw_tbl := by decide +kernel
theorem inw5 : ∀ w ∈ u_ws RX5 TX5 6, w ∈ lw_tbl := by decide +kernel
theorem inw6 : ∀ w ∈ u_ws RX6 TX6 3, w ∈ lw_tbl := by decide +kernel
theorem inw7 : ∀ w ∈ u_ws RX7 TX7 9, w ∈ lw_tbl := by decide +kernel
theorem inw8 : ∀ w ∈ u_ws RX8 TX8 5, w ∈ lw_tbl := by decide +kernel
theorem inw9 : ∀ w ∈ u_ws RX9 TX9 9, w ∈ lw_tbl := by decide +kernel
theorem inw10 : ∀ w ∈ u_ws RX10 TX10 40, w ∈ lw_tbl := by decide +kernel
theorem classes_ok : ∀ q ∈ classes, okC q := List.forall_mem_cons.mpr ⟨⟨okC_in inw0, ⟨tyX0, tyX0_ok⟩, nmX0⟩, List.forall_mem_cons.mpr ⟨⟨okC_in inw1, ⟨tyX1, tyX1_ok⟩, nmX1⟩, List.forall_mem_cons.mpr ⟨⟨okC_in inw2, ⟨tyX2, tyX2_ok⟩, nmX2⟩, List.forall_mem_cons.mpr ⟨⟨okC_in inw3, ⟨tyX3, tyX3_ok⟩, nmX3⟩, List.forall_mem_cons.mpr ⟨⟨okC_in inw4, ⟨tyX4, tyX4_ok⟩, nmX4⟩, List.forall_mem_cons.mpr ⟨⟨okC_in inw5, ⟨tyX5, tyX5_ok⟩, nmX5⟩, List.forall_mem_cons.mpr ⟨⟨okC_in inw6, ⟨tyX6, tyX6_ok⟩, nmX6⟩, List.forall_mem_cons.mpr ⟨⟨okC_in inw7, ⟨tyX7, tyX7_ok⟩, nmX7⟩, List.forall_mem_cons.mpr ⟨⟨okC_in inw8, ⟨tyX8, tyX8_ok⟩, nmX8⟩, List.forall_mem_cons.mpr ⟨⟨okC_in inw9, ⟨tyX9, tyX9_ok⟩, nmX9⟩, List.forall_mem_cons.mpr ⟨⟨okC_in inw10, ⟨tyX10, tyX10_ok⟩, nmX10⟩, fun _ h => absurd h List.not_mem_nil⟩⟩⟩⟩⟩⟩⟩⟩⟩⟩⟩
theorem find_mem {α : Type} {l : List (Nat × Nat × α)} {o i : Nat} {v : α} (h : (l.find? (fun q => q.1 == o && q.2.1 == i)).map (fun q => q.2.2) = some v) : (o, i, v) ∈ l := by
  cases hf : l.find? (fun q => q.1 == o && q.2.1 == i) with
  | none => rw [hf] at h; cases h
  | some q =>
    rw [hf] at h
    have h1 := List.mem_of_find?_eq_some hf
    have h2 := List.find?_some hf
    simp only [Bool.and_eq_true, beq_iff_eq] at h2
    obtain ⟨a, b, w⟩ := q
    obtain ⟨rfl, rfl⟩ := h2
    cases h
    exact h1
theorem fl_ok {o i : Nat} {q : Nat × Nat} (h : fl o i = some q) : okF (o, i, q.1, q.2) := flt_ok _ (find_mem h)
theorem kl_ok {o i : Nat} {v : Int32} (h : kl o i = some v) : okK (o, i, v) := klt_ok _ (find_mem h)
theorem kL_ok {o i : Nat} {v : Int64} (h : kL o i = some v) : okL (o, i, v) := kLt_ok _ (find_mem h)
theorem ml_ok {o i j : Nat} (h : ml o i = some j) : okN (o, i, j) := mlt_ok _ (find_mem h)
theorem mtt_at {j : Nat} {m : aM} (h : mtt[j]? = some m) : okM m := mtt_ok _ (List.mem_of_getElem? h)
theorem rc_arr {g : aG} {a k n : Nat} {t : List Nat} (h : shl[a]? = some (.inr (k, n, t))) (hk : k < 2) (f : Nat → Int32) : rc g a f = .inl (g.2.2 k, n, .inl f) := by
  unfold rc
  rw [h]
  simp only [hk, if_true]
theorem rc_ref {g : aG} {a k n : Nat} {t : List Nat} (h : shl[a]? = some (.inr (k, n, t))) (hk : ¬ k < 2) (f : Nat → Int32) : rc g a f = .inl (g.2.2 k, n, .inr (.inr (.inr (.inr (fun i => (t[i]?).map g.2.1))))) := by
  unfold rc
  rw [h]
  simp only [hk, if_false]
theorem rc_obj {g : aG} {a ci : Nat} {sl : List (Option Nat)} (h : shl[a]? = some (.inl (ci, sl))) (f : Nat → Int32) : rc g a f = .inr (ci, rfs g.2.1 f sl) := by
  unfold rc
  rw [h]
theorem gw_good (y : Cond) (hy : y ∈ gw) : GoodIn gw (y :: gw) := by
  intro w hw
  have h : w ∈ gw := by
    rcases List.mem_cons.mp hw with h | h
    · rw [h]; exact hy
    · exact h
  exact ⟨h, good_of_word (List.mem_filter.mp h).2⟩
theorem aPre_blind {g : aG} {sz : Nat} {as : List Value} {σ : aW} : FrameBlind (aPre g sz as σ) := fun a U f mk q => by
  obtain ⟨q0, q1, qP, qK, qN, qD⟩ := q
  exact ⟨q0, q1, qP, va_K.moved (u := U) (U := U.calling f mk a) (Vm.Alike.refl U.vm) qK, va_Nw.same (u := U) rfl rfl qN, qD⟩
section SND
variable {p : Program} {l : Launch} {e : Env} {R : Room} {s : State} {m : MethodId} {args : Array Value} {below : List Frame} {meth : Method} {c : Code} {cells slots : Nat} {Z : State → Prop} {g : aG} {A : Nat → Prop} {d : Nat} {sc : Option (Nat × (Nat → Int32))} {o : Nat} {cc : ByteArray} {ty : Option FieldType} {nL : Nat} {Q : Option Value → aW → Prop} {K : Nat → aL → List Value → aW → Prop} {pc : Nat} {ls : aL} {st : List Value} {σ : aW} {H : Heap} {locs : List Loc} {ls' : Array Slot}
def aCtx (p : Program) (R : Room) (s : State) (m : MethodId) (args : Array Value) (c : Code) (g : aG) (A : Nat → Prop) (d : Nat) (sc : Option (Nat × (Nat → Int32))) (o : Nat) (cc : ByteArray) (nL cells slots : Nat) : Prop :=
  p.tables.exec = Jvm.exec ∧ c.code = cc ∧ c.maxLocals = nL ∧ s.vm.findClass (cn o) = some m.cls ∧ (∀ w ∈ gw, w.before args s = true) ∧ va_K g.1 classes (atys g) s ∧ va_Nw nw0 s ∧ (∀ i j, i < NP → j < NP → g.2.1 i = g.2.1 j → i = j) ∧ (∀ i, i < NP → A (g.2.1 i)) ∧ (∀ q, s.heap.size ≤ q → A q) ∧ (d + 1 ≤ R.frames ∧ 100 * (d + 1) ≤ R.locals) ∧ (cells ≤ R.cells ∧ slots ≤ R.slots) ∧ (∀ q, sc = some q → va_X (g.2.1 NP) q.1 q.2 s s.heap ∧ g.2.1 NP < s.heap.size ∧ ¬ A (g.2.1 NP))
def aGo (p : Program) (l : Launch) (e : Env) (R : Room) (s : State) (m : MethodId) (args : Array Value) (below : List Frame) (meth : Method) (c : Code) (cells slots : Nat) (Z : State → Prop) (g : aG) (A : Nat → Prop) (nL : Nat) (K : Nat → aL → List Value → aW → Prop) : Prop :=
  ∀ (pc : Nat) (ls : aL) (st : List Value) (σ : aW) (H : Heap) (locs : List Loc) (ls' : Array Slot), K pc ls st σ → va_P g.1 classes (rws g σ) H → va_S A s.heap H locs → lo_has g.2.1 ls' nL ls → W p l e R s m args below meth c H locs cells slots Z (F0 m pc ls' (st.map (rv g.2.1)))
theorem s_nx {st2 : List Value} {pc2 : Nat} (hG : aGo p l e R s m args below meth c cells slots Z g A nL K) (hP : va_P g.1 classes (rws g σ) H) (hS : va_S A s.heap H locs) (hl : lo_has g.2.1 ls' nL ls) (h : XR l d Q pc ls σ K (nx pc2 ls st2 σ)) : W p l e R s m args below meth c H locs cells slots Z (F0 m pc2 ls' (st2.map (rv g.2.1))) := hG _ _ _ _ _ _ _ h hP hS hl
theorem s_bin {f : Int32 → Int32 → Int32} (hG : aGo p l e R s m args below meth c cells slots Z g A nL K) (hP : va_P g.1 classes (rws g σ) H) (hS : va_S A s.heap H locs) (hl : lo_has g.2.1 ls' nL ls)
    (row : ∀ (x y : Int32) (rest : List Value), W p l e R s m args below meth c H locs cells slots Z (F0 m (pc + 1) ls' (.int (f x y) :: rest)) → W p l e R s m args below meth c H locs cells slots Z (F0 m pc ls' (.int y :: .int x :: rest)))
    (h : XR l d Q pc ls σ K (bin f pc ls st σ)) : W p l e R s m args below meth c H locs cells slots Z (F0 m pc ls' (st.map (rv g.2.1))) := by
  unfold bin at h
  split at h
  · exact row _ _ _ (s_nx hG hP hS hl h)
  · exact h.elim
theorem s_binL {f : Int64 → Int64 → Int64} (hG : aGo p l e R s m args below meth c cells slots Z g A nL K) (hP : va_P g.1 classes (rws g σ) H) (hS : va_S A s.heap H locs) (hl : lo_has g.2.1 ls' nL ls)
    (row : ∀ (x y : Int64) (rest : List Value), W p l e R s m args below meth c H locs cells slots Z (F0 m (pc + 1) ls' (.long (f x y) :: rest)) → W p l e R s m args below meth c H locs cells slots Z (F0 m pc ls' (.long y :: .long x :: rest)))
    (h : XR l d Q pc ls σ K (binL f pc ls st σ)) : W p l e R s m args below meth c H locs cells slots Z (F0 m pc ls' (st.map (rv g.2.1))) := by
  unfold binL at h
  split at h
  · exact row _ _ _ (s_nx hG hP hS hl h)
  · exact h.elim
theorem s_divI {f : Int32 → Int32 → Int32} (hG : aGo p l e R s m args below meth c cells slots Z g A nL K) (hP : va_P g.1 classes (rws g σ) H) (hS : va_S A s.heap H locs) (hl : lo_has g.2.1 ls' nL ls)
    (row : ∀ (x y : Int32) (rest : List Value), ¬ y = 0 → W p l e R s m args below meth c H locs cells slots Z (F0 m (pc + 1) ls' (.int (f x y) :: rest)) → W p l e R s m args below meth c H locs cells slots Z (F0 m pc ls' (.int y :: .int x :: rest)))
    (h : XR l d Q pc ls σ K (divI f pc ls st σ)) : W p l e R s m args below meth c H locs cells slots Z (F0 m pc ls' (st.map (rv g.2.1))) := by
  unfold divI at h
  split at h
  · next y x r =>
    by_cases hy : y = 0
    · rw [if_pos hy] at h; exact h.elim
    · rw [if_neg hy] at h
      exact row _ _ _ hy (s_nx hG hP hS hl h)
  · exact h.elim
theorem s_divL {f : Int64 → Int64 → Int64} (hG : aGo p l e R s m args below meth c cells slots Z g A nL K) (hP : va_P g.1 classes (rws g σ) H) (hS : va_S A s.heap H locs) (hl : lo_has g.2.1 ls' nL ls)
    (row : ∀ (x y : Int64) (rest : List Value), ¬ y = 0 → W p l e R s m args below meth c H locs cells slots Z (F0 m (pc + 1) ls' (.long (f x y) :: rest)) → W p l e R s m args below meth c H locs cells slots Z (F0 m pc ls' (.long y :: .long x :: rest)))
    (h : XR l d Q pc ls σ K (divL f pc ls st σ)) : W p l e R s m args below meth c H locs cells slots Z (F0 m pc ls' (st.map (rv g.2.1))) := by
  unfold divL at h
  split at h
  · next y x r =>
    by_cases hy : y = 0
    · rw [if_pos hy] at h; exact h.elim
    · rw [if_neg hy] at h
      exact row _ _ _ hy (s_nx hG hP hS hl h)
  · exact h.elim
theorem s_ldI {k pc2 : Nat} (hG : aGo p l e R s m args below meth c cells slots Z g A nL K) (hP : va_P g.1 classes (rws g σ) H) (hS : va_S A s.heap H locs) (hl : lo_has g.2.1 ls' nL ls)
    (row : ∀ (x : Int32), ls'[k]? = some (.val (.int x)) → W p l e R s m args below meth c H locs cells slots Z (F0 m pc2 ls' (.int x :: st.map (rv g.2.1))) → W p l e R s m args below meth c H locs cells slots Z (F0 m pc ls' (st.map (rv g.2.1))))
    (h : XR l d Q pc ls σ K (ldI k pc2 ls st σ)) : W p l e R s m args below meth c H locs cells slots Z (F0 m pc ls' (st.map (rv g.2.1))) := by
  unfold ldI at h
  split at h
  · next x hx => exact row _ (hl.2.2.2 _ _ (join_at hx)) (s_nx hG hP hS hl h)
  · exact h.elim
theorem s_ldL {k pc2 : Nat} (hG : aGo p l e R s m args below meth c cells slots Z g A nL K) (hP : va_P g.1 classes (rws g σ) H) (hS : va_S A s.heap H locs) (hl : lo_has g.2.1 ls' nL ls)
    (row : ∀ (x : Int64), ls'[k]? = some (.val (.long x)) → W p l e R s m args below meth c H locs cells slots Z (F0 m pc2 ls' (.long x :: st.map (rv g.2.1))) → W p l e R s m args below meth c H locs cells slots Z (F0 m pc ls' (st.map (rv g.2.1))))
    (h : XR l d Q pc ls σ K (ldL k pc2 ls st σ)) : W p l e R s m args below meth c H locs cells slots Z (F0 m pc ls' (st.map (rv g.2.1))) := by
  unfold ldL at h
  split at h
  · next x hx => exact row _ (hl.2.2.2 _ _ (join_at hx)) (s_nx hG hP hS hl h)
  · exact h.elim
theorem s_ldA {k pc2 : Nat} (hG : aGo p l e R s m args below meth c cells slots Z g A nL K) (hP : va_P g.1 classes (rws g σ) H) (hS : va_S A s.heap H locs) (hl : lo_has g.2.1 ls' nL ls)
    (row : ∀ (x : Nat), ls'[k]? = some (.val (.ref x)) → W p l e R s m args below meth c H locs cells slots Z (F0 m pc2 ls' (.ref x :: st.map (rv g.2.1))) → W p l e R s m args below meth c H locs cells slots Z (F0 m pc ls' (st.map (rv g.2.1))))
    (h : XR l d Q pc ls σ K (ldA k pc2 ls st σ)) : W p l e R s m args below meth c H locs cells slots Z (F0 m pc ls' (st.map (rv g.2.1))) := by
  unfold ldA at h
  split at h
  · next x hx => exact row _ (hl.2.2.2 _ _ (join_at hx)) (s_nx hG hP hS hl h)
  · exact h.elim
theorem s_stI {k pc2 : Nat} (hG : aGo p l e R s m args below meth c cells slots Z g A nL K) (hP : va_P g.1 classes (rws g σ) H) (hS : va_S A s.heap H locs) (hl : lo_has g.2.1 ls' nL ls)
    (row : ∀ (x : Int32) (rest : List Value), lv_has ls' nL (lvl g.2.1 ls) → k < nL → (∀ ls2 : Array Slot, lv_has ls2 nL ((k, Value.int x) :: (lvl g.2.1 ls).filter (fun q => !(q.1 == k) && !(q.1 + 1 == k && q.2.category == 2))) → W p l e R s m args below meth c H locs cells slots Z (F0 m pc2 ls2 rest)) → W p l e R s m args below meth c H locs cells slots Z (F0 m pc ls' (.int x :: rest)))
    (h : XR l d Q pc ls σ K (stI k pc2 ls st σ)) : W p l e R s m args below meth c H locs cells slots Z (F0 m pc ls' (st.map (rv g.2.1))) := by
  unfold stI at h
  split at h
  · next x r =>
    by_cases hk : lok ls k = true ∧ k < ls.length
    · rw [if_pos hk] at h
      have hn : k < nL := by rw [← hl.1]; exact hk.2
      exact row x _ hl.lv hn (fun ls2 h2 => hG _ _ _ _ _ _ _ h hP hS (lo_set1 (v := .int x) hl.1 hn hk.1 h2))
    · rw [if_neg hk] at h; exact h.elim
  · exact h.elim
theorem s_stA {k pc2 : Nat} (hG : aGo p l e R s m args below meth c cells slots Z g A nL K) (hP : va_P g.1 classes (rws g σ) H) (hS : va_S A s.heap H locs) (hl : lo_has g.2.1 ls' nL ls)
    (row : ∀ (x : Nat) (rest : List Value), lv_has ls' nL (lvl g.2.1 ls) → k < nL → (∀ ls2 : Array Slot, lv_has ls2 nL ((k, Value.ref x) :: (lvl g.2.1 ls).filter (fun q => !(q.1 == k) && !(q.1 + 1 == k && q.2.category == 2))) → W p l e R s m args below meth c H locs cells slots Z (F0 m pc2 ls2 rest)) → W p l e R s m args below meth c H locs cells slots Z (F0 m pc ls' (.ref x :: rest)))
    (h : XR l d Q pc ls σ K (stA k pc2 ls st σ)) : W p l e R s m args below meth c H locs cells slots Z (F0 m pc ls' (st.map (rv g.2.1))) := by
  unfold stA at h
  split at h
  · next x r =>
    by_cases hk : lok ls k = true ∧ k < ls.length
    · rw [if_pos hk] at h
      have hn : k < nL := by rw [← hl.1]; exact hk.2
      exact row (g.2.1 x) _ hl.lv hn (fun ls2 h2 => hG _ _ _ _ _ _ _ h hP hS (lo_set1 (v := .ref x) hl.1 hn hk.1 h2))
    · rw [if_neg hk] at h; exact h.elim
  · exact h.elim
theorem s_stL {k pc2 : Nat} (hG : aGo p l e R s m args below meth c cells slots Z g A nL K) (hP : va_P g.1 classes (rws g σ) H) (hS : va_S A s.heap H locs) (hl : lo_has g.2.1 ls' nL ls)
    (row : ∀ (x : Int64) (rest : List Value), lv_has ls' nL (lvl g.2.1 ls) → k + 1 < nL → (∀ ls2 : Array Slot, lv_has ls2 nL ((k, Value.long x) :: (lvl g.2.1 ls).filter (fun q => !(q.1 == k) && (!(q.1 == k + 1) && !(q.1 + 1 == k && q.2.category == 2)))) → W p l e R s m args below meth c H locs cells slots Z (F0 m pc2 ls2 rest)) → W p l e R s m args below meth c H locs cells slots Z (F0 m pc ls' (.long x :: rest)))
    (h : XR l d Q pc ls σ K (stL k pc2 ls st σ)) : W p l e R s m args below meth c H locs cells slots Z (F0 m pc ls' (st.map (rv g.2.1))) := by
  unfold stL at h
  split at h
  · next x r =>
    by_cases hk : lok ls k = true ∧ k + 1 < ls.length
    · rw [if_pos hk] at h
      have hn : k + 1 < nL := by rw [← hl.1]; exact hk.2
      exact row x _ hl.lv hn (fun ls2 h2 => hG _ _ _ _ _ _ _ h hP hS (lo_set2 (v := .long x) hl.1 hn hk.1 h2))
    · rw [if_neg hk] at h; exact h.elim
  · exact h.elim
theorem s_inc {k : Nat} {n : Int} (hG : aGo p l e R s m args below meth c cells slots Z g A nL K) (hP : va_P g.1 classes (rws g σ) H) (hS : va_S A s.heap H locs) (hl : lo_has g.2.1 ls' nL ls) (hx : p.tables.exec = Jvm.exec) (hb : c.code = cc) (hd : decode cc pc = .ok (.iinc k n, 3))
    (h : XR l d Q pc ls σ K (inc k n pc ls st σ)) : W p l e R s m args below meth c H locs cells slots Z (F0 m pc ls' (st.map (rv g.2.1))) := by
  unfold inc at h
  split at h
  · next x hj =>
    by_cases hk : lok ls k = true ∧ k < ls.length
    · rw [if_pos hk] at h
      have hn : k < nL := by rw [← hl.1]; exact hk.2
      have hm : (k, Value.int x) ∈ lvl g.2.1 ls := lvl_mem.mpr ⟨.int x, join_at hj, rfl⟩
      obtain ⟨i, hi⟩ := List.getElem?_of_mem hm
      exact lv_iinc hx hb hd hl.lv hi rfl hn rfl (fun ls2 h2 => hG _ _ _ _ _ _ _ h hP hS (lo_set1 (v := .int (x + Int32.ofInt n)) hl.1 hn hk.1 h2))
    · rw [if_neg hk] at h; exact h.elim
  · exact h.elim
theorem tg_eq {off : Int} (h : 0 ≤ (pc : Int) + off) : (pc : Int) + off = (tg pc off : Int) := by
  unfold tg
  omega
theorem s_br {b : Bool} {off : Int} {r : List Value} (hG : aGo p l e R s m args below meth c cells slots Z g A nL K) (hP : va_P g.1 classes (rws g σ) H) (hS : va_S A s.heap H locs) (hl : lo_has g.2.1 ls' nL ls)
    (row : (pc : Int) + off = (tg pc off : Int) → (b = true → W p l e R s m args below meth c H locs cells slots Z (F0 m (tg pc off) ls' (r.map (rv g.2.1)))) → (b = false → W p l e R s m args below meth c H locs cells slots Z (F0 m (pc + 3) ls' (r.map (rv g.2.1)))) → W p l e R s m args below meth c H locs cells slots Z (F0 m pc ls' (st.map (rv g.2.1))))
    (h : XR l d Q pc ls σ K (brI b off pc ls r σ)) : W p l e R s m args below meth c H locs cells slots Z (F0 m pc ls' (st.map (rv g.2.1))) := by
  unfold brI at h
  by_cases ht : 0 ≤ (pc : Int) + off
  · rw [if_pos ht] at h
    refine row (tg_eq ht) (fun hb => ?_) (fun hb => ?_)
    · subst hb
      exact hG _ _ _ _ _ _ _ h hP hS hl
    · subst hb
      exact hG _ _ _ _ _ _ _ h hP hS hl
  · rw [if_neg ht] at h; exact h.elim
end SND
end
section
section SND2
variable {p : Program} {l : Launch} {e : Env} {R : Room} {s : State} {m : MethodId} {args : Array Value} {below : List Frame} {meth : Method} {c : Code} {cells slots : Nat} {Z : State → Prop} {g : aG} {A : Nat → Prop} {d : Nat} {sc : Option (Nat × (Nat → Int32))} {o : Nat} {cc : ByteArray} {ty : Option FieldType} {nL : Nat} {Q : Option Value → aW → Prop} {K : Nat → aL → List Value → aW → Prop} {pc : Nat} {ls : aL} {st : List Value} {σ : aW} {H : Heap} {locs : List Loc} {ls' : Array Slot}
theorem s_gtF {i : Nat} (hC : aCtx p R s m args c g A d sc o cc nL cells slots) (hG : aGo p l e R s m args below meth c cells slots Z g A nL K) (hP : va_P g.1 classes (rws g σ) H) (hS : va_S A s.heap H locs) (hl : lo_has g.2.1 ls' nL ls) (hd : decode cc pc = .ok (.getfield i, 3))
    (h : XR l d Q pc ls σ K (gtF o i pc ls st σ)) : W p l e R s m args below meth c H locs cells slots Z (F0 m pc ls' (st.map (rv g.2.1))) := by
  obtain ⟨hx, hb, hml, hown, hts, hK, hNw, hinj, hAd, hAq, hR, hcs, hsc⟩ := hC
  unfold gtF at h
  split at h
  · next a r =>
    split at h
    · next q hq =>
      by_cases hc : cls a = q.1
      · rw [if_pos hc] at h
        obtain ⟨C, T, N, h1, h2, h3⟩ := fl_ok hq
        obtain ⟨sl, hsl⟩ := cls_spec hc (fun e9 => by simp only [e9] at h1; cases h1)
        rw [slt_at hsl] at h
        have hat := rws_at g σ (shl_lt hsl)
        rw [rc_obj hsl] at hat
        have okc := classes_ok _ (List.mem_of_getElem? h1)
        split at h
        · next hk =>
          refine va_get (v := .int (σ a q.2)) hx hb hts okc.1 hown hK hP a hat h1 q.2 h2 (hts _ h3) (fun _ h9 => h9) ?_ hd (s_nx hG hP hS hl h)
          rw [rfs_at, hk]
          rfl
        · next t hk =>
          refine va_get (v := .ref (g.2.1 t)) hx hb hts okc.1 hown hK hP a hat h1 q.2 h2 (hts _ h3) (fun _ h9 => h9) ?_ hd (s_nx hG hP hS hl h)
          rw [rfs_at, hk]
          rfl
        · exact h.elim
      · rw [if_neg hc] at h; exact h.elim
    · exact h.elim
  · exact h.elim
theorem s_ptF {i : Nat} (hC : aCtx p R s m args c g A d sc o cc nL cells slots) (hG : aGo p l e R s m args below meth c cells slots Z g A nL K) (hP : va_P g.1 classes (rws g σ) H) (hS : va_S A s.heap H locs) (hl : lo_has g.2.1 ls' nL ls) (hd : decode cc pc = .ok (.putfield i, 3))
    (h : XR l d Q pc ls σ K (ptF o i pc ls st σ)) : W p l e R s m args below meth c H locs cells slots Z (F0 m pc ls' (st.map (rv g.2.1))) := by
  obtain ⟨hx, hb, hml, hown, hts, hK, hNw, hinj, hAd, hAq, hR, hcs, hsc⟩ := hC
  unfold ptF at h
  split at h
  · next v a r =>
    split at h
    · next q hq =>
      by_cases hc : cls a = q.1 ∧ slt a q.2 = some none
      · rw [if_pos hc] at h
        obtain ⟨C, T, N, h1, h2, h3⟩ := fl_ok hq
        obtain ⟨sl, hsl⟩ := cls_spec hc.1 (fun e9 => by simp only [e9] at h1; cases h1)
        have hk := hc.2
        rw [slt_at hsl] at hk
        have hat := rws_at g σ (shl_lt hsl)
        rw [rc_obj hsl] at hat
        have okc := classes_ok _ (List.mem_of_getElem? h1)
        obtain ⟨ty0, hty⟩ := okc.2.1
        have hlay := lay_ok hsl hk h1
        have hlen : q.2 < (rfs g.2.1 (σ a) sl).length := by
          have := (List.getElem?_eq_some_iff.mp hk).1
          simp [rfs]; exact this
        refine va_put (v := .int v) (ty := .int) hx hb hts okc.1 ty0 hty okc.2.2 hown hK hP (rws_D hinj hAd) hS a hat h1 q.2 h2 (hts _ h3) (fun _ h9 => h9) hlay.1 (by rw [hlay.2]; decide +kernel) rfl rfl hlen hd (fun H1 locs1 hP1 _ hS1 => ?_)
        rw [rfs_set _ _ _ _ _ hk, ← rc_obj (g := g) hsl (upd (σ a) q.2 v), rws_set (shl_lt hsl)] at hP1
        exact hG _ _ _ _ _ _ _ h hP1 hS1 hl
      · rw [if_neg hc] at h; exact h.elim
    · exact h.elim
  · exact h.elim
theorem atys_at {g : aG} {k n a : Nat} {t : List Nat} (h : shl[a]? = some (.inr (k, n, t))) : ∃ ft, (atys g)[k]? = some (g.2.2 k, ft) ∧ (k = 0 → ft = .int) ∧ (k = 1 → ft = .boolean) ∧ (¬ k < 2 → ft.isReference = true) := by
  have hk := (lay_arr h).1
  rcases (show k = 0 ∨ k = 1 ∨ k = 2 ∨ k = 3 by omega) with rfl | rfl | rfl | rfl
  · exact ⟨.int, rfl, fun _ => rfl, fun q => by omega, fun q => by omega⟩
  · exact ⟨.boolean, rfl, fun q => by omega, fun _ => rfl, fun q => by omega⟩
  · exact ⟨.object RX7, rfl, fun q => by omega, fun q => by omega, fun _ => rfl⟩
  · exact ⟨.array .int, rfl, fun q => by omega, fun q => by omega, fun _ => rfl⟩
theorem s_iald (hC : aCtx p R s m args c g A d sc o cc nL cells slots) (hG : aGo p l e R s m args below meth c cells slots Z g A nL K) (hP : va_P g.1 classes (rws g σ) H) (hS : va_S A s.heap H locs) (hl : lo_has g.2.1 ls' nL ls) (hd : decode cc pc = .ok (.iaload, 1))
    (h : XR l d Q pc ls σ K (ald sc 0 pc ls st σ)) : W p l e R s m args below meth c H locs cells slots Z (F0 m pc ls' (st.map (rv g.2.1))) := by
  obtain ⟨hx, hb, hml, hown, hts, hK, hNw, hinj, hAd, hAq, hR, hcs, hsc⟩ := hC
  unfold ald at h
  split at h
  · next i a r =>
    by_cases hk : akd a = 0
    · rw [if_pos hk] at h
      obtain ⟨n, t, h1, h2⟩ := akd_spec hk (by decide)
      rw [h2] at h
      have hat := rws_at g σ (shl_lt h1)
      rw [rc_arr h1 (by decide)] at hat
      by_cases hi : i < 0 ∨ n ≤ i.toNatClampNeg
      · rw [if_pos hi] at h; exact h.elim
      · rw [if_neg hi] at h
        exact va_iald hx hb hK hP a 0 hat rfl hi hd (s_nx hG hP hS hl h)
    · rw [if_neg hk] at h
      by_cases ha : a = NP ∧ 0 = 0
      · rw [if_pos ha] at h
        split at h
        · next q =>
          by_cases hi : i < 0 ∨ q.1 ≤ i.toNatClampNeg
          · rw [if_pos hi] at h; exact h.elim
          · rw [if_neg hi] at h
            obtain ⟨g1, g2, g3⟩ := hsc q rfl
            rw [ha.1]
            exact va_sld hx hb g1 g2 g3 hS hi hd (s_nx hG hP hS hl h)
        · exact h.elim
      · rw [if_neg ha] at h; exact h.elim
  · exact h.elim
theorem s_zald (hC : aCtx p R s m args c g A d sc o cc nL cells slots) (hG : aGo p l e R s m args below meth c cells slots Z g A nL K) (hP : va_P g.1 classes (rws g σ) H) (hS : va_S A s.heap H locs) (hl : lo_has g.2.1 ls' nL ls) (hd : decode cc pc = .ok (.baload, 1))
    (h : XR l d Q pc ls σ K (ald none 1 pc ls st σ)) : W p l e R s m args below meth c H locs cells slots Z (F0 m pc ls' (st.map (rv g.2.1))) := by
  obtain ⟨hx, hb, hml, hown, hts, hK, hNw, hinj, hAd, hAq, hR, hcs, hsc⟩ := hC
  unfold ald at h
  split at h
  · next i a r =>
    by_cases hk : akd a = 1
    · rw [if_pos hk] at h
      obtain ⟨n, t, h1, h2⟩ := akd_spec hk (by decide)
      rw [h2] at h
      have hat := rws_at g σ (shl_lt h1)
      rw [rc_arr h1 (by decide)] at hat
      by_cases hi : i < 0 ∨ n ≤ i.toNatClampNeg
      · rw [if_pos hi] at h; exact h.elim
      · rw [if_neg hi] at h
        exact va_zald hx hb hK hP a 1 hat rfl hi hd (s_nx hG hP hS hl h)
    · rw [if_neg hk] at h
      by_cases ha : a = NP ∧ 1 = 0
      · exact absurd ha.2 (by decide)
      · rw [if_neg ha] at h; exact h.elim
  · exact h.elim
theorem s_iast (hC : aCtx p R s m args c g A d sc o cc nL cells slots) (hG : aGo p l e R s m args below meth c cells slots Z g A nL K) (hP : va_P g.1 classes (rws g σ) H) (hS : va_S A s.heap H locs) (hl : lo_has g.2.1 ls' nL ls) (hd : decode cc pc = .ok (.iastore, 1))
    (h : XR l d Q pc ls σ K (ast 0 (fun x => x) pc ls st σ)) : W p l e R s m args below meth c H locs cells slots Z (F0 m pc ls' (st.map (rv g.2.1))) := by
  obtain ⟨hx, hb, hml, hown, hts, hK, hNw, hinj, hAd, hAq, hR, hcs, hsc⟩ := hC
  unfold ast at h
  split at h
  · next x i a r =>
    by_cases hk : akd a = 0
    · rw [if_pos hk] at h
      obtain ⟨n, t, h1, h2⟩ := akd_spec hk (by decide)
      rw [h2] at h
      have hat := rws_at g σ (shl_lt h1)
      rw [rc_arr h1 (by decide)] at hat
      by_cases hi : i < 0 ∨ n ≤ i.toNatClampNeg
      · rw [if_pos hi] at h; exact h.elim
      · rw [if_neg hi] at h
        refine va_iast hx hb hK hP (rws_D hinj hAd) hS a 0 hat rfl hi hd (fun H1 locs1 hP1 _ hS1 => ?_)
        rw [← rc_arr (g := g) h1 (by decide), rws_set (shl_lt h1)] at hP1
        exact hG _ _ _ _ _ _ _ h hP1 hS1 hl
    · rw [if_neg hk] at h; exact h.elim
  · exact h.elim
theorem s_zast (hC : aCtx p R s m args c g A d sc o cc nL cells slots) (hG : aGo p l e R s m args below meth c cells slots Z g A nL K) (hP : va_P g.1 classes (rws g σ) H) (hS : va_S A s.heap H locs) (hl : lo_has g.2.1 ls' nL ls) (hd : decode cc pc = .ok (.bastore, 1))
    (h : XR l d Q pc ls σ K (ast 1 (vp_nar .boolean) pc ls st σ)) : W p l e R s m args below meth c H locs cells slots Z (F0 m pc ls' (st.map (rv g.2.1))) := by
  obtain ⟨hx, hb, hml, hown, hts, hK, hNw, hinj, hAd, hAq, hR, hcs, hsc⟩ := hC
  unfold ast at h
  split at h
  · next x i a r =>
    by_cases hk : akd a = 1
    · rw [if_pos hk] at h
      obtain ⟨n, t, h1, h2⟩ := akd_spec hk (by decide)
      rw [h2] at h
      have hat := rws_at g σ (shl_lt h1)
      rw [rc_arr h1 (by decide)] at hat
      by_cases hi : i < 0 ∨ n ≤ i.toNatClampNeg
      · rw [if_pos hi] at h; exact h.elim
      · rw [if_neg hi] at h
        refine va_zast hx hb hK hP (rws_D hinj hAd) hS a 1 hat rfl hi hd (fun H1 locs1 hP1 _ hS1 => ?_)
        rw [← rc_arr (g := g) h1 (by decide), rws_set (shl_lt h1)] at hP1
        exact hG _ _ _ _ _ _ _ h hP1 hS1 hl
    · rw [if_neg hk] at h; exact h.elim
  · exact h.elim
theorem s_aald (hC : aCtx p R s m args c g A d sc o cc nL cells slots) (hG : aGo p l e R s m args below meth c cells slots Z g A nL K) (hP : va_P g.1 classes (rws g σ) H) (hS : va_S A s.heap H locs) (hl : lo_has g.2.1 ls' nL ls) (hd : decode cc pc = .ok (.aaload, 1))
    (h : XR l d Q pc ls σ K (aald pc ls st σ)) : W p l e R s m args below meth c H locs cells slots Z (F0 m pc ls' (st.map (rv g.2.1))) := by
  obtain ⟨hx, hb, hml, hown, hts, hK, hNw, hinj, hAd, hAq, hR, hcs, hsc⟩ := hC
  unfold aald at h
  split at h
  · next i a r =>
    by_cases hk : akd a = 2 ∨ akd a = 3
    · rw [if_pos hk] at h
      obtain ⟨k, hk2, hk3⟩ : ∃ k, akd a = k ∧ (k = 2 ∨ k = 3) := ⟨_, rfl, hk⟩
      have hnk : ¬ k < 2 := by omega
      obtain ⟨n, t, h1, h2⟩ := akd_spec hk2 (by omega)
      rw [h2] at h
      have hat := rws_at g σ (shl_lt h1)
      rw [rc_ref h1 hnk] at hat
      obtain ⟨ft, q1, -, -, q4⟩ := atys_at (g := g) h1
      have hlen : t.length = n := (lay_arr h1).2.resolve_left hnk
      by_cases hi : i < 0 ∨ n ≤ i.toNatClampNeg
      · rw [if_pos hi] at h; exact h.elim
      · rw [if_neg hi] at h
        have hlt : i.toNatClampNeg < n := Nat.not_le.mp fun q => hi (Or.inr q)
        have hre : rel a i.toNatClampNeg = t[i.toNatClampNeg]'(by rw [hlen]; exact hlt) := by
          unfold rel
          rw [h1]
          simp [hlen, hlt]
        refine W.aald (v := .ref (g.2.1 (rel a i.toNatClampNeg))) (ty := ft) hx hb (hP a _ hat) ((hK.2 k _ q1).1 n _) (q4 hnk) (fun q => by cases q) (by show ¬ (i < 0 ∨ (arrV _ _ _).slots.size ≤ _); rw [arrV_size]; exact hi) ?_ rfl rfl hd (s_nx hG hP hS hl h)
        show (arrV _ _ _).slots[_]? = _
        rw [arrV_read _ _ hlt, hre]
        simp [hlen, hlt, va_rf]
    · rw [if_neg hk] at h; exact h.elim
  · exact h.elim
theorem s_aln (hC : aCtx p R s m args c g A d sc o cc nL cells slots) (hG : aGo p l e R s m args below meth c cells slots Z g A nL K) (hP : va_P g.1 classes (rws g σ) H) (hS : va_S A s.heap H locs) (hl : lo_has g.2.1 ls' nL ls) (hd : decode cc pc = .ok (.arraylength, 1))
    (h : XR l d Q pc ls σ K (aln1 sc pc ls st σ)) : W p l e R s m args below meth c H locs cells slots Z (F0 m pc ls' (st.map (rv g.2.1))) := by
  obtain ⟨hx, hb, hml, hown, hts, hK, hNw, hinj, hAd, hAq, hR, hcs, hsc⟩ := hC
  unfold aln1 at h
  split at h
  · next a r =>
    by_cases ha : a = NP
    · rw [if_pos ha] at h
      split at h
      · next q =>
        obtain ⟨g1, g2, g3⟩ := hsc q rfl
        rw [ha]
        exact va_slen hx hb g1 g2 g3 hS hd (s_nx hG hP hS hl h)
      · exact h.elim
    · rw [if_neg ha] at h; exact h.elim
  · exact h.elim
theorem s_swt {dflt lo hi : Int} {offs : Array Int} {len : Nat} (hC : aCtx p R s m args c g A d sc o cc nL cells slots) (hG : aGo p l e R s m args below meth c cells slots Z g A nL K) (hP : va_P g.1 classes (rws g σ) H) (hS : va_S A s.heap H locs) (hl : lo_has g.2.1 ls' nL ls) (hd : decode cc pc = .ok (.tableswitch dflt lo hi offs, len))
    (h : XR l d Q pc ls σ K (swt dflt lo hi offs pc ls st σ)) : W p l e R s m args below meth c H locs cells slots Z (F0 m pc ls' (st.map (rv g.2.1))) := by
  obtain ⟨hx, hb, hml, hown, hts, hK, hNw, hinj, hAd, hAq, hR, hcs, hsc⟩ := hC
  unfold swt at h
  split at h
  · next x r =>
    split at h
    · next off hoff =>
      by_cases ht : 0 ≤ (pc : Int) + off
      · rw [if_pos ht] at h
        unfold tsw at hoff
        by_cases hr : x.toInt < lo ∨ hi < x.toInt
        · rw [if_pos hr] at hoff
          cases hoff
          exact lv_tableOut hx hb hd hr (tg_eq ht) (s_nx hG hP hS hl h)
        · rw [if_neg hr] at hoff
          exact lv_tableIn hx hb hd (fun q => hr (Or.inl q)) (fun q => hr (Or.inr q)) hoff (tg_eq ht) (s_nx hG hP hS hl h)
      · rw [if_neg ht] at h; exact h.elim
    · exact h.elim
  · exact h.elim
theorem s_max {i : Nat} (hml2 : ml o i = some 1000) (hC : aCtx p R s m args c g A d sc o cc nL cells slots) (hG : aGo p l e R s m args below meth c cells slots Z g A nL K) (hP : va_P g.1 classes (rws g σ) H) (hS : va_S A s.heap H locs) (hl : lo_has g.2.1 ls' nL ls) (hd : decode cc pc = .ok (.invokestatic i, 3))
    (w1 : Cond.static Lib.Math.max.name ∈ gw) (w2 : Cond.initialized "java/lang/Math" ∈ gw) (w3 : Cond.code Lib.Math.max.name Lib.Math.max.code 2 (some .int) ∈ gw)
    (h : XR l d Q pc ls σ K (mm2 (fun x y => if x < y then y else x) pc ls st σ)) : W p l e R s m args below meth c H locs cells slots Z (F0 m pc ls' (st.map (rv g.2.1))) := by
  obtain ⟨hx, hb, hml, hown, hts, hK, hNw, hinj, hAd, hAq, hR, hcs, hsc⟩ := hC
  unfold mm2 at h
  split at h
  · next y x r =>
    by_cases hr : rsz r ≤ 8
    · rw [if_pos hr] at h
      have hlk : Cond.methodLink (cn o) i Lib.Math.max.name ∈ gw := by
        have := ml_ok hml2
        unfold okN at this
        rw [if_pos rfl] at this
        exact this
      exact va_mmax hx hb (hml.trans hl.2.1.symm) hown (hts _ hlk) (hts _ w1) (hts _ w2) (hts _ w3) (by omega) (by rw [rsz_map]; omega) hcs.1 hcs.2 hd (s_nx hG hP hS hl h)
    · rw [if_neg hr] at h; exact h.elim
  · exact h.elim
theorem s_min {i : Nat} (hml2 : ml o i = some 1001) (hC : aCtx p R s m args c g A d sc o cc nL cells slots) (hG : aGo p l e R s m args below meth c cells slots Z g A nL K) (hP : va_P g.1 classes (rws g σ) H) (hS : va_S A s.heap H locs) (hl : lo_has g.2.1 ls' nL ls) (hd : decode cc pc = .ok (.invokestatic i, 3))
    (w1 : Cond.static Lib.Math.min.name ∈ gw) (w2 : Cond.initialized "java/lang/Math" ∈ gw) (w3 : Cond.code Lib.Math.min.name Lib.Math.min.code 2 (some .int) ∈ gw)
    (h : XR l d Q pc ls σ K (mm2 (fun x y => if y < x then y else x) pc ls st σ)) : W p l e R s m args below meth c H locs cells slots Z (F0 m pc ls' (st.map (rv g.2.1))) := by
  obtain ⟨hx, hb, hml, hown, hts, hK, hNw, hinj, hAd, hAq, hR, hcs, hsc⟩ := hC
  unfold mm2 at h
  split at h
  · next y x r =>
    by_cases hr : rsz r ≤ 8
    · rw [if_pos hr] at h
      have hlk : Cond.methodLink (cn o) i Lib.Math.min.name ∈ gw := by
        have := ml_ok hml2
        unfold okN at this
        rw [if_neg (show ¬ 1001 = 1000 by decide), if_pos rfl] at this
        exact this
      exact va_mmin hx hb (hml.trans hl.2.1.symm) hown (hts _ hlk) (hts _ w1) (hts _ w2) (hts _ w3) (by omega) (by rw [rsz_map]; omega) hcs.1 hcs.2 hd (s_nx hG hP hS hl h)
    · rw [if_neg hr] at h; exact h.elim
  · exact h.elim
theorem s_cpy {i : Nat} (hml2 : ml o i = some 1002) (hC : aCtx p R s m args c g A d sc o cc nL cells slots) (hG : aGo p l e R s m args below meth c cells slots Z g A nL K) (hP : va_P g.1 classes (rws g σ) H) (hS : va_S A s.heap H locs) (hl : lo_has g.2.1 ls' nL ls) (hd : decode cc pc = .ok (.invokestatic i, 3))
    (w1 : Cond.native arraycopyName ∈ gw) (w2 : Cond.static arraycopyName ∈ gw) (w3 : Cond.initialized "java/lang/System" ∈ gw)
    (h : XR l d Q pc ls σ K (cpy pc ls st σ)) : W p l e R s m args below meth c H locs cells slots Z (F0 m pc ls' (st.map (rv g.2.1))) := by
  obtain ⟨hx, hb, hml, hown, hts, hK, hNw, hinj, hAd, hAq, hR, hcs, hsc⟩ := hC
  unfold cpy at h
  split at h
  · next n dp b sp a r =>
    split at h
    · next hc =>
      obtain ⟨ka, kb, h1, h2, h3, h4, h5, h6⟩ := hc
      have hlk : Cond.methodLink (cn o) i arraycopyName ∈ gw := by
        have := ml_ok hml2
        unfold okN at this
        rw [if_neg (show ¬ 1002 = 1000 by decide), if_neg (show ¬ 1002 = 1001 by decide), if_pos rfl] at this
        exact this
      obtain ⟨na, ta, a1, a2⟩ := akd_spec ka (by decide)
      obtain ⟨nb, tb, b1, b2⟩ := akd_spec kb (by decide)
      have hata := rws_at g σ (shl_lt a1)
      rw [rc_arr a1 (by decide)] at hata
      have hatb := rws_at g σ (shl_lt b1)
      rw [rc_arr b1 (by decide)] at hatb
      refine va_copyi (ty := .int) hx hb (hml.trans hl.2.1.symm) hown (hts _ hlk) (hts _ w1) (hts _ w2) (hts _ w3) hK hP (rws_D hinj hAd) hS a b 0 0 hata hatb rfl rfl rfl h1 h2 h3 (by rw [← a2]; exact h4) (by rw [← b2]; exact h5) (fun _ _ => rfl) (by omega) (by rw [rsz_map, show nativeFrameWords "java/lang/System" "arraycopy" 5 = 7 by decide +kernel]; omega) hd (fun H1 locs1 hP1 _ hS1 => ?_)
      rw [← rc_arr (g := g) b1 (by decide), rws_set (shl_lt b1)] at hP1
      exact hG _ _ _ _ _ _ _ h hP1 hS1 hl
    · exact h.elim
  · exact h.elim
end SND2
end
section
theorem cls_names_all : (List.range classes.length).all (fun i => decide ((classes[i]?).map (fun q => q.1) = some (cn i))) = true := by decide +kernel
theorem cls_names {i : Nat} {q : vw_C} (h : classes[i]? = some q) : q.1 = cn i := by
  have h1 := List.all_eq_true.mp cls_names_all i (List.mem_range.mpr (List.getElem?_eq_some_iff.mp h).1)
  rw [h] at h1
  exact Option.some.inj (of_decide_eq_true h1)
theorem mtt_own : mtt.all (fun q => decide (q.2.2.2.2.2.1 < 13)) = true := by decide +kernel
section SND3
variable {p : Program} {l : Launch} {e : Env} {R : Room} {s : State} {m : MethodId} {args : Array Value} {below : List Frame} {meth : Method} {c : Code} {cells slots : Nat} {Z : State → Prop} {g : aG} {A : Nat → Prop} {d : Nat} {sc : Option (Nat × (Nat → Int32))} {o : Nat} {cc : ByteArray} {ty : Option FieldType} {nL : Nat} {Q : Option Value → aW → Prop} {K : Nat → aL → List Value → aW → Prop} {pc : Nat} {ls : aL} {st : List Value} {σ : aW} {H : Heap} {locs : List Loc} {ls' : Array Slot}
theorem call_go {σ' : aW} {r : Option Value} {st0 rest : List Value} {a : Array Value} (hr : va_Run p l e R s m args below meth c H locs cells slots 0 0 (F0 m pc ls' st0) rest (aPost g H.size σ r σ' a) (va_A (rws g σ) H.size)) (hS : va_S A s.heap H locs) (hF : ∀ q, va_A (rws g σ) H.size q → A q)
    (kk : ∀ (H1 : Heap) (locs1 : List Loc), va_P g.1 classes (rws g σ') H1 → va_S A s.heap H1 locs1 → W p l e R s m args below meth c H1 locs1 cells slots Z (F0 m (pc + 3) ls' ((r.map (rv g.2.1)).toList ++ rest))) : W p l e R s m args below meth c H locs cells slots Z (F0 m pc ls' st0) := by
  intro T hT X
  obtain ⟨v, st₀, t, T', L, h0, X', hL, e1, e2, ⟨⟨hv, hp⟩, hz, hk⟩, st⟩ := hr T hT X
  cases hv
  rw [h0] at hz hk
  obtain ⟨t2, a1, b1⟩ := kk t.heap (locs ++ L) hp ⟨Nat.le_trans hS.1 hz, fun q h1 h2 => by
      rw [hk q (Nat.lt_of_lt_of_le h1 hS.1) (fun z => h2 (hF q z))]
      exact hS.2.1 q h1 h2, fun q hq => by
      rcases List.mem_append.mp hq with h | h
      · exact hS.2.2 q h
      · exact hF _ (hL q h)⟩ T' e1 X'
  exact ⟨t2, st t2 a1, b1⟩
theorem rv_ret (ad : Nat → Nat) (r : Option Value) (rest : List Value) : (r.map (rv ad)).toList ++ rest.map (rv ad) = (r.toList ++ rest).map (rv ad) := by cases r <;> rfl
theorem aPre_at {as : List Value} (hC : aCtx p R s m args c g A d sc o cc nL cells slots) (hP : va_P g.1 classes (rws g σ) H) : ∀ U : State, U.heap = H → s.WarmedH U.vm → aPre g H.size as σ (as.map (rv g.2.1)).toArray U := by
  obtain ⟨hx, hb, hml, hown, hts, hK, hNw, hinj, hAd, hAq, hR, hcs, hsc⟩ := hC
  intro U hU hW
  exact ⟨rfl, by rw [hU], by rw [hU]; exact hP, va_K.moved hW.alike hK, va_Nw.warmM hW hNw, rws_D hinj (fun _ _ => trivial)⟩
theorem free_A (hC : aCtx p R s m args c g A d sc o cc nL cells slots) (hS : va_S A s.heap H locs) : ∀ q, va_A (rws g σ) H.size q → A q := by
  obtain ⟨hx, hb, hml, hown, hts, hK, hNw, hinj, hAd, hAq, hR, hcs, hsc⟩ := hC
  intro q h
  rcases h with ⟨k, e9, h⟩ | h
  · obtain ⟨a1, a2⟩ := rws_inv h
    cases a2
    exact hAd k a1
  · exact hAq q (Nat.le_trans hS.1 h)
theorem rvs (ad : Nat → Nat) {st : List Value} {n : Nat} {w : List Value} (h : st.drop n = w) : st.map (rv ad) = ((st.take n).reverse.map (rv ad)).reverse ++ w.map (rv ad) := by
  rw [← List.map_reverse, List.reverse_reverse, ← List.map_append, ← h, List.take_append_drop]
theorem s_clV {i j : Nat} (hj : ml o i = some j) (hj2 : j < 1000) (hC : aCtx p R s m args c g A d sc o cc nL cells slots) (hG : aGo p l e R s m args below meth c cells slots Z g A nL K) (hP : va_P g.1 classes (rws g σ) H) (hS : va_S A s.heap H locs) (hl : lo_has g.2.1 ls' nL ls) (hd : decode cc pc = .ok (.invokevirtual i, 3))
    (h : XR l d Q pc ls σ K (clV j st)) : W p l e R s m args below meth c H locs cells slots Z (F0 m pc ls' (st.map (rv g.2.1))) := by
  have hC0 := hC
  obtain ⟨hx, hb, hml, hown, hts, hK, hNw, hinj, hAd, hAq, hR, hcs, hsc⟩ := hC
  unfold clV at h
  split at h
  · next mm hmm =>
    split at h
    · next a r hdrop =>
      split at h
      · next hc =>
        obtain ⟨c1, c2, c3, c4⟩ := hc
        obtain ⟨r2, σ', ⟨m2, hm2, hMet⟩, hk⟩ := h
        have hm2 : mtt[j]? = some m2 := hm2
        rw [hmm] at hm2
        cases hm2
        obtain ⟨⟨n1, n2, n3, n4⟩, n5, n6, n7, n8, n9⟩ := mtt_at hmm
        rw [if_neg (by rw [c1]; decide)] at n9
        have hlk : Cond.methodLink (cn o) i mm.1 ∈ gw := by
          have := ml_ok hj
          unfold okN at this
          rw [if_neg (show ¬ j = 1000 by omega), if_neg (show ¬ j = 1001 by omega), if_neg (show ¬ j = 1002 by omega)] at this
          obtain ⟨m3, g1, g2⟩ := this
          have g1 : mtt[j]? = some m3 := g1
          rw [hmm] at g1
          cases g1
          exact g2
        have hci : mm.2.2.2.2.2.1 ≠ 99 := by
          have := of_decide_eq_true (List.all_eq_true.mp mtt_own _ (List.mem_of_getElem? hmm))
          omega
        obtain ⟨sl, hsl⟩ := cls_spec c2 hci
        have hat := rws_at g σ (shl_lt hsl)
        rw [rc_obj hsl] at hat
        have hcl : ∃ q, classes[mm.2.2.2.2.2.1]? = some q ∧ q.1 = cn mm.2.2.2.2.2.1 := by
          have h1 := List.all_eq_true.mp lay_all _ (List.mem_of_getElem? hsl)
          unfold layB at h1
          cases hq : classes[mm.2.2.2.2.2.1]? with
          | none => simp only [hq] at h1; cases h1
          | some q => exact ⟨q, rfl, cls_names hq⟩
        obtain ⟨q, hq1, hq2⟩ := hcl
        have hrec := va_recv hK hP hq1 hat
        rw [hq2, ← n5] at hrec
        have hpre := aPre_at (as := .ref a :: (st.take mm.2.2.2.2.1).reverse) hC0 hP
        have hcw : CallW R s args (cn o) mm.1.cls i mm.1 mm.2.1 mm.2.2.1 mm.2.2.2.1 (Cond.code mm.1 mm.2.1 mm.2.2.1 mm.2.2.2.1 :: gw) (RD d) 0 0 mm.2.2.2.2.1 :=
          ⟨callB_of _ hts (gw_good _ n7) rfl rfl rfl (hts _ n8) (hts _ hlk) ⟨n2, n3, n4⟩ ⟨hR.1, by show 8 + (mm.2.2.1 + 11) + 100 * d ≤ R.locals; omega⟩, hts _ n9.1, hts _ n9.2⟩
        refine call_go (va_runV (As := (st.take mm.2.2.2.2.1).reverse.map (rv g.2.1)) (rest := r.map (rv g.2.1)) (b := g.2.1 a) ⟨hx, hb, hml, hown, hts⟩ (hMet g H.size) hcw ⟨aPre_blind, hrec, hpre⟩ rfl (by simp; omega) hl.2.1 (rvs g.2.1 hdrop) (lv_room (by rw [rsz_map]; exact c3)) hd hcs) hS (free_A hC0 hS) (fun H1 locs1 hP1 hS1 => ?_)
        rw [rv_ret]
        exact hG _ _ _ _ _ _ _ hk hP1 hS1 hl
      · exact h.elim
    · exact h.elim
  · exact h.elim
theorem s_clS {i j : Nat} {mm : aM} (hmm : mtt[j]? = some mm) (hlk : Cond.methodLink (cn o) i mm.1 ∈ gw) (hC : aCtx p R s m args c g A d sc o cc nL cells slots) (hG : aGo p l e R s m args below meth c cells slots Z g A nL K) (hP : va_P g.1 classes (rws g σ) H) (hS : va_S A s.heap H locs) (hl : lo_has g.2.1 ls' nL ls) (hd : decode cc pc = .ok (.invokestatic i, 3))
    (h : XR l d Q pc ls σ K (clS j st)) : W p l e R s m args below meth c H locs cells slots Z (F0 m pc ls' (st.map (rv g.2.1))) := by
  have hC0 := hC
  obtain ⟨hx, hb, hml, hown, hts, hK, hNw, hinj, hAd, hAq, hR, hcs, hsc⟩ := hC
  unfold clS at h
  rw [hmm] at h
  dsimp only at h
  split at h
  · next hc =>
    obtain ⟨c1, c3, c4⟩ := hc
    obtain ⟨r2, σ', ⟨m2, hm2, hMet⟩, hk⟩ := h
    have hm2 : mtt[j]? = some m2 := hm2
    rw [hmm] at hm2
    cases hm2
    obtain ⟨⟨n1, n2, n3, n4⟩, n5, n6, n7, n8, n9⟩ := mtt_at hmm
    rw [if_pos c1] at n9
    have hpre := aPre_at (as := (st.take mm.2.2.2.2.1).reverse) hC0 hP
    have hcw : CallB R s args (cn o) i mm.1 mm.2.1 mm.2.2.1 mm.2.2.2.1 (Cond.code mm.1 mm.2.1 mm.2.2.1 mm.2.2.2.1 :: gw) (RD d) 0 0 mm.2.2.2.2.1 :=
      callB_of _ hts (gw_good _ n7) rfl rfl rfl (hts _ n8) (hts _ hlk) ⟨n2, n3, n4⟩ ⟨hR.1, by show 8 + (mm.2.2.1 + 11) + 100 * d ≤ R.locals; omega⟩
    refine call_go (va_runS (As := (st.take mm.2.2.2.2.1).reverse.map (rv g.2.1)) (rest := (st.drop mm.2.2.2.2.1).map (rv g.2.1)) ⟨hx, hb, hml, hown, hts⟩ (hMet g H.size) ⟨hcw, hts _ n9⟩ ⟨aPre_blind, hpre⟩ rfl (by simp; omega) hl.2.1 (rvs g.2.1 rfl) (lv_room (by rw [rsz_map]; exact c3)) hd hcs) hS (free_A hC0 hS) (fun H1 locs1 hP1 hS1 => ?_)
    rw [rv_ret]
    exact hG _ _ _ _ _ _ _ hk hP1 hS1 hl
  · exact h.elim
theorem s_clN {i j : Nat} {mm : aM} {host : String} (hmm : mtt[j]? = some mm) (hlk : va_Nw (.methodLinkNest (cn o) i mm.1 host) s) (hC : aCtx p R s m args c g A d sc o cc nL cells slots) (hG : aGo p l e R s m args below meth c cells slots Z g A nL K) (hP : va_P g.1 classes (rws g σ) H) (hS : va_S A s.heap H locs) (hl : lo_has g.2.1 ls' nL ls) (hd : decode cc pc = .ok (.invokestatic i, 3))
    (h : XR l d Q pc ls σ K (clS j st)) : W p l e R s m args below meth c H locs cells slots Z (F0 m pc ls' (st.map (rv g.2.1))) := by
  have hC0 := hC
  obtain ⟨hx, hb, hml, hown, hts, hK, hNw, hinj, hAd, hAq, hR, hcs, hsc⟩ := hC
  unfold clS at h
  rw [hmm] at h
  dsimp only at h
  split at h
  · next hc =>
    obtain ⟨c1, c3, c4⟩ := hc
    obtain ⟨r2, σ', ⟨m2, hm2, hMet⟩, hk⟩ := h
    have hm2 : mtt[j]? = some m2 := hm2
    rw [hmm] at hm2
    cases hm2
    obtain ⟨⟨n1, n2, n3, n4⟩, n5, n6, n7, n8, n9⟩ := mtt_at hmm
    rw [if_pos c1] at n9
    have hpre := aPre_at (as := (st.take mm.2.2.2.2.1).reverse) hC0 hP
    have hcw := va_cnB (R := R) (args := args) (own := cn o) (host := host) (index := i) (rm := RD d) (mc := 0) (ms := 0) mm.2.2.2.2.1 hts (gw_good _ n7) rfl rfl rfl hlk (hts _ n8) ⟨n2, n3, n4⟩ ⟨hR.1, by show 8 + (mm.2.2.1 + 11) + 100 * d ≤ R.locals; omega⟩
    refine call_go (va_runSN (As := (st.take mm.2.2.2.2.1).reverse.map (rv g.2.1)) (rest := (st.drop mm.2.2.2.2.1).map (rv g.2.1)) ⟨hx, hb, hml, hown, hts⟩ (hMet g H.size) ⟨hcw, hts _ n9, trivial⟩ ⟨aPre_blind, hpre⟩ rfl (by simp; omega) hl.2.1 (rvs g.2.1 rfl) (lv_room (by rw [rsz_map]; exact c3)) hd hcs) hS (free_A hC0 hS) (fun H1 locs1 hP1 hS1 => ?_)
    rw [rv_ret]
    exact hG _ _ _ _ _ _ _ hk hP1 hS1 hl
  · exact h.elim
theorem jw1 : Cond.static Lib.Math.max.name ∈ gw := gw_in (i := 518) (by decide +kernel) rfl
theorem jw2 : Cond.initialized "java/lang/Math" ∈ gw := gw_in (i := 61) (by decide +kernel) rfl
set_option maxRecDepth 100000 in
theorem jw3 : Cond.code Lib.Math.max.name Lib.Math.max.code 2 (some .int) ∈ gw := gw_in (i := 519) (by decide +kernel) rfl
theorem jw4 : Cond.static Lib.Math.min.name ∈ gw := gw_in (i := 507) (by decide +kernel) rfl
set_option maxRecDepth 100000 in
theorem jw5 : Cond.code Lib.Math.min.name Lib.Math.min.code 2 (some .int) ∈ gw := gw_in (i := 508) (by decide +kernel) rfl
theorem jw6 : Cond.native arraycopyName ∈ gw := gw_in (i := 439) (by decide +kernel) rfl
theorem jw7 : Cond.static arraycopyName ∈ gw := gw_in (i := 438) (by decide +kernel) rfl
theorem jw8 : Cond.initialized "java/lang/System" ∈ gw := gw_in (i := 60) (by decide +kernel) rfl
theorem s_ivS {i : Nat} (hC : aCtx p R s m args c g A d sc o cc nL cells slots) (hG : aGo p l e R s m args below meth c cells slots Z g A nL K) (hP : va_P g.1 classes (rws g σ) H) (hS : va_S A s.heap H locs) (hl : lo_has g.2.1 ls' nL ls) (hd : decode cc pc = .ok (.invokestatic i, 3))
    (h : XR l d Q pc ls σ K (ivS o i pc ls st σ)) : W p l e R s m args below meth c H locs cells slots Z (F0 m pc ls' (st.map (rv g.2.1))) := by
  unfold ivS at h
  split at h
  · next hm => exact s_max hm hC hG hP hS hl hd jw1 jw2 jw3 h
  · next hm => exact s_min hm hC hG hP hS hl hd jw4 jw2 jw5 h
  · next hm => exact s_cpy hm hC hG hP hS hl hd jw6 jw7 jw8 h
  · next j n0 n1 n2 hm =>
    have := ml_ok hm
    unfold okN at this
    rw [if_neg (show ¬ j = 1000 from fun q => n0 q), if_neg (show ¬ j = 1001 from fun q => n1 q), if_neg (show ¬ j = 1002 from fun q => n2 q)] at this
    obtain ⟨m3, g1, g2⟩ := this
    exact s_clS g1 g2 hC hG hP hS hl hd h
  · next hm =>
    split at h
    · next q hq =>
      have h1 := List.mem_of_find?_eq_some hq
      have h2 := List.find?_some hq
      simp only [Bool.and_eq_true, beq_iff_eq] at h2
      have h3 : q = nlt.getD 0 (0, 0, 0) := by
        have : nlt = [nlt.getD 0 (0, 0, 0)] := rfl
        rw [this] at h1
        exact List.mem_singleton.mp h1
      have hNw := hC.2.2.2.2.2.2.1
      unfold nw0 at hNw
      rw [← h3, h2.1, h2.2] at hNw
      have hmm : ∃ mm : aM, mtt[q.2.2]? = some mm ∧ mm.1 = yX9_afterCoffee := by
        rw [h3]
        exact ⟨_, rfl, rfl⟩
      obtain ⟨mm, m1, m2⟩ := hmm
      rw [← m2] at hNw
      exact s_clN m1 hNw hC hG hP hS hl hd h
    · exact h.elim
set_option maxRecDepth 100000 in
theorem s_ivV {i : Nat} (hC : aCtx p R s m args c g A d sc o cc nL cells slots) (hG : aGo p l e R s m args below meth c cells slots Z g A nL K) (hP : va_P g.1 classes (rws g σ) H) (hS : va_S A s.heap H locs) (hl : lo_has g.2.1 ls' nL ls) (hd : decode cc pc = .ok (.invokevirtual i, 3))
    (h : XR l d Q pc ls σ K (ivV o i st)) : W p l e R s m args below meth c H locs cells slots Z (F0 m pc ls' (st.map (rv g.2.1))) := by
  unfold ivV at h
  split at h
  · next j hj =>
    have hlt : j < 1000 := by
      unfold clV at h
      split at h
      · next mm hmm =>
        have h1 := (List.getElem?_eq_some_iff.mp hmm).1
        have h2 : mtt.length ≤ 1000 := Nat.le_of_ble_eq_true rfl
        omega
      · exact h.elim
    exact s_clV hj hlt hC hG hP hS hl hd h
  · exact h.elim
end SND3
end
section
section SND4
variable {p : Program} {l : Launch} {e : Env} {R : Room} {s : State} {m : MethodId} {args : Array Value} {below : List Frame} {meth : Method} {c : Code} {cells slots : Nat} {Z : State → Prop} {g : aG} {A : Nat → Prop} {d : Nat} {sc : Option (Nat × (Nat → Int32))} {o : Nat} {cc : ByteArray} {ty : Option FieldType} {nL : Nat} {Q : Option Value → aW → Prop} {K : Nat → aL → List Value → aW → Prop}
def aEnd (p : Program) (l : Launch) (e : Env) (R : Room) (s : State) (m : MethodId) (args : Array Value) (below : List Frame) (meth : Method) (c : Code) (cells slots : Nat) (Z : State → Prop) (g : aG) (A : Nat → Prop) (cc : ByteArray) (ty : Option FieldType) (Q : Option Value → aW → Prop) : Prop :=
  (∀ (σ : aW) (H : Heap) (locs : List Loc) (pc : Nat) (ls' : Array Slot), Q none σ → va_P g.1 classes (rws g σ) H → va_S A s.heap H locs → decode cc pc = .ok (.return_, 1) → ty = none → W p l e R s m args below meth c H locs cells slots Z (F0 m pc ls' [])) ∧
  (∀ (x : Int32) (σ : aW) (H : Heap) (locs : List Loc) (pc : Nat) (ls' : Array Slot), Q (some (.int x)) σ → va_P g.1 classes (rws g σ) H → va_S A s.heap H locs → decode cc pc = .ok (.ireturn, 1) → (ty = some .int ∨ (ty = some .boolean ∧ (x = 0 ∨ x = 1))) → W p l e R s m args below meth c H locs cells slots Z (F0 m pc ls' [.int x]))
set_option maxHeartbeats 4000000 in
theorem step_sound (hC : aCtx p R s m args c g A d sc o cc nL cells slots) (hG : aGo p l e R s m args below meth c cells slots Z g A nL K) (hE : aEnd p l e R s m args below meth c cells slots Z g A cc ty Q)
    {i : Instr} {len pc : Nat} {ls : aL} {st : List Value} {σ : aW} {H : Heap} {locs : List Loc} {ls' : Array Slot} (hd : decode cc pc = .ok (i, len)) (hlen : len = lenI i len) (h : XR l d Q pc ls σ K (stepA sc o ty i pc ls st σ))
    (hP : va_P g.1 classes (rws g σ) H) (hS : va_S A s.heap H locs) (hl : lo_has g.2.1 ls' nL ls) : W p l e R s m args below meth c H locs cells slots Z (F0 m pc ls' (st.map (rv g.2.1))) := by
  have hC0 := hC
  obtain ⟨hx, hb, hml, hown, hts, hK, hNw, hinj, hAd, hAq, hR, hcs, hsc⟩ := hC0
  cases i
  case iconst n => rw [show len = 1 from hlen] at hd; exact lv_iconst hx hb hd rfl (s_nx hG hP hS hl h)
  case bipush n => rw [show len = 2 from hlen] at hd; exact lv_bipush hx hb hd rfl (s_nx hG hP hS hl h)
  case sipush n => rw [show len = 3 from hlen] at hd; exact lv_sipush hx hb hd rfl (s_nx hG hP hS hl h)
  case lconst n => rw [show len = 1 from hlen] at hd; exact lv_lconst hx hb hd rfl (s_nx hG hP hS hl h)
  case ldc n =>
    rw [show len = 2 from hlen] at hd
    have h : XR l d Q pc ls σ K ((kl o n).bind fun v => nx (pc + 2) ls (.int v :: st) σ) := h
    cases hk : kl o n with
    | none => rw [hk] at h; exact h.elim
    | some v => rw [hk] at h; exact lv_ldc hx hb hown (hts _ (kl_ok hk)) hd (s_nx hG hP hS hl h)
  case ldc_w n =>
    rw [show len = 3 from hlen] at hd
    have h : XR l d Q pc ls σ K ((kl o n).bind fun v => nx (pc + 3) ls (.int v :: st) σ) := h
    cases hk : kl o n with
    | none => rw [hk] at h; exact h.elim
    | some v => rw [hk] at h; exact lv_ldcw hx hb hown (hts _ (kl_ok hk)) hd (s_nx hG hP hS hl h)
  case ldc2_w n =>
    rw [show len = 3 from hlen] at hd
    have h : XR l d Q pc ls σ K ((kL o n).bind fun v => nx (pc + 3) ls (.long v :: st) σ) := h
    cases hk : kL o n with
    | none => rw [hk] at h; exact h.elim
    | some v => rw [hk] at h; exact lv_ldc2 hx hb hown (hts _ (kL_ok hk)) hd (s_nx hG hP hS hl h)
  case iload_n k => rw [show len = 1 from hlen] at hd; exact s_ldI hG hP hS hl (fun x hx2 w => lv_iload_n hx hb hd rfl hx2 w) h
  case iload k => rw [show len = 2 from hlen] at hd; exact s_ldI hG hP hS hl (fun x hx2 w => lv_iload hx hb hd hx2 w) h
  case lload_n k => rw [show len = 1 from hlen] at hd; exact s_ldL hG hP hS hl (fun x hx2 w => lv_lload_n hx hb hd rfl hx2 w) h
  case lload k => rw [show len = 2 from hlen] at hd; exact s_ldL hG hP hS hl (fun x hx2 w => lv_lload hx hb hd hx2 w) h
  case aload_n k => rw [show len = 1 from hlen] at hd; exact s_ldA hG hP hS hl (fun x hx2 w => lv_aload_n hx hb hd rfl hx2 w) h
  case aload k => rw [show len = 2 from hlen] at hd; exact s_ldA hG hP hS hl (fun x hx2 w => lv_aload hx hb hd hx2 w) h
  case istore_n k => rw [show len = 1 from hlen] at hd; exact s_stI hG hP hS hl (fun x r h1 h2 w => lv_istore_n hx hb hd rfl h1 h2 rfl w) h
  case istore k => rw [show len = 2 from hlen] at hd; exact s_stI hG hP hS hl (fun x r h1 h2 w => lv_istore hx hb hd h1 h2 rfl w) h
  case lstore_n k => rw [show len = 1 from hlen] at hd; exact s_stL hG hP hS hl (fun x r h1 h2 w => lv_lstore_n hx hb hd rfl h1 h2 rfl w) h
  case lstore k => rw [show len = 2 from hlen] at hd; exact s_stL hG hP hS hl (fun x r h1 h2 w => lv_lstore hx hb hd h1 h2 rfl w) h
  case astore_n k => rw [show len = 1 from hlen] at hd; exact s_stA hG hP hS hl (fun x r h1 h2 w => lv_astore_n hx hb hd rfl h1 h2 rfl w) h
  case astore k => rw [show len = 2 from hlen] at hd; exact s_stA hG hP hS hl (fun x r h1 h2 w => lv_astore hx hb hd h1 h2 rfl w) h
  case iinc k n => rw [show len = 3 from hlen] at hd; exact s_inc hG hP hS hl hx hb hd h
  case iadd => rw [show len = 1 from hlen] at hd; exact s_bin hG hP hS hl (fun x y r w => lv_iadd hx hb hd w) h
  case isub => rw [show len = 1 from hlen] at hd; exact s_bin hG hP hS hl (fun x y r w => lv_isub hx hb hd w) h
  case imul => rw [show len = 1 from hlen] at hd; exact s_bin hG hP hS hl (fun x y r w => lv_imul hx hb hd w) h
  case iand => rw [show len = 1 from hlen] at hd; exact s_bin hG hP hS hl (fun x y r w => lv_iand hx hb hd w) h
  case ior => rw [show len = 1 from hlen] at hd; exact s_bin hG hP hS hl (fun x y r w => lv_ior hx hb hd w) h
  case ixor => rw [show len = 1 from hlen] at hd; exact s_bin hG hP hS hl (fun x y r w => lv_ixor hx hb hd w) h
  case ishl => rw [show len = 1 from hlen] at hd; exact s_bin hG hP hS hl (fun x y r w => lv_ishl hx hb hd w) h
  case ishr => rw [show len = 1 from hlen] at hd; exact s_bin hG hP hS hl (fun x y r w => lv_ishr hx hb hd w) h
  case iushr => rw [show len = 1 from hlen] at hd; exact s_bin hG hP hS hl (fun x y r w => lv_iushr hx hb hd rfl w) h
  case idiv => rw [show len = 1 from hlen] at hd; exact s_divI hG hP hS hl (fun x y r h0 w => lv_idiv hx hb hd h0 w) h
  case irem => rw [show len = 1 from hlen] at hd; exact s_divI hG hP hS hl (fun x y r h0 w => lv_irem hx hb hd h0 w) h
  case ladd => rw [show len = 1 from hlen] at hd; exact s_binL hG hP hS hl (fun x y r w => lv_ladd hx hb hd w) h
  case lmul => rw [show len = 1 from hlen] at hd; exact s_binL hG hP hS hl (fun x y r w => lv_lmul hx hb hd w) h
  case land => rw [show len = 1 from hlen] at hd; exact s_binL hG hP hS hl (fun x y r w => lv_land hx hb hd w) h
  case ldiv => rw [show len = 1 from hlen] at hd; exact s_divL hG hP hS hl (fun x y r h0 w => lv_ldiv hx hb hd h0 w) h
  case lrem => rw [show len = 1 from hlen] at hd; exact s_divL hG hP hS hl (fun x y r h0 w => lv_lrem hx hb hd h0 w) h
  case i2l =>
    rw [show len = 1 from hlen] at hd
    have h : XR l d Q pc ls σ K (cnv pc ls st σ) := h
    unfold cnv at h
    split at h
    · exact lv_i2l hx hb hd rfl (s_nx hG hP hS hl h)
    · exact h.elim
  case l2i =>
    rw [show len = 1 from hlen] at hd
    have h : XR l d Q pc ls σ K (cnvL pc ls st σ) := h
    unfold cnvL at h
    split at h
    · exact lv_l2i hx hb hd rfl (s_nx hG hP hS hl h)
    · exact h.elim
  case lcmp =>
    rw [show len = 1 from hlen] at hd
    have h : XR l d Q pc ls σ K (lcm pc ls st σ) := h
    unfold lcm at h
    split at h
    · exact W.lcmp hx hb hd (s_nx hG hP hS hl h)
    · exact h.elim
  case dup =>
    rw [show len = 1 from hlen] at hd
    have h : XR l d Q pc ls σ K (du1 pc ls st σ) := h
    unfold du1 at h
    split at h
    · split at h
      · next hv => exact lv_dup hx hb hd (by rw [rv_cat]; exact hv) (s_nx hG hP hS hl h)
      · exact h.elim
    · exact h.elim
  case pop =>
    rw [show len = 1 from hlen] at hd
    have h : XR l d Q pc ls σ K (pp1 pc ls st σ) := h
    unfold pp1 at h
    split at h
    · split at h
      · next hv => exact lv_pop hx hb hd (by rw [rv_cat]; exact hv) (s_nx hG hP hS hl h)
      · exact h.elim
    · exact h.elim
  case dup2 =>
    rw [show len = 1 from hlen] at hd
    have h : XR l d Q pc ls σ K (du2 pc ls st σ) := h
    unfold du2 at h
    split at h
    · split at h
      · next hv => exact lv_dup2_11 hx hb hd (by rw [rv_cat]; exact hv.1) (by rw [rv_cat]; exact hv.2) (s_nx hG hP hS hl h)
      · exact h.elim
    · exact h.elim
  case ifCond cd off =>
    rw [show len = 3 from hlen] at hd
    have h : XR l d Q pc ls σ K (if1 cd off pc ls st σ) := h
    unfold if1 at h
    split at h
    · next x r _ =>
      refine s_br (st := .int x :: r) hG hP hS hl (fun ht kt kf => ?_) h
      cases cd
      · exact lv_if_eq hx hb hd ht (fun q => kt (decide_eq_true q)) (fun q => kf (decide_eq_false q))
      · exact lv_if_ne hx hb hd ht (fun q => kt (by show (!decide (x = 0)) = true; rw [decide_eq_false q]; rfl)) (fun q => kf (by show (!decide (x = 0)) = false; rw [decide_eq_true q]; rfl))
      · exact lv_if_lt hx hb hd ht (fun q => kt (decide_eq_true q)) (fun q => kf (decide_eq_false q))
      · exact lv_if_ge hx hb hd ht (fun q => kt (decide_eq_true q)) (fun q => kf (decide_eq_false q))
      · exact lv_if_gt hx hb hd ht (fun q => kt (decide_eq_true q)) (fun q => kf (decide_eq_false q))
      · exact lv_if_le hx hb hd ht (fun q => kt (decide_eq_true q)) (fun q => kf (decide_eq_false q))
    · exact h.elim
  case if_icmp cd off =>
    rw [show len = 3 from hlen] at hd
    have h : XR l d Q pc ls σ K (if2 cd off pc ls st σ) := h
    unfold if2 at h
    split at h
    · next y x r _ =>
      refine s_br (st := .int y :: .int x :: r) hG hP hS hl (fun ht kt kf => ?_) h
      cases cd
      · exact lv_icmp_eq hx hb hd ht (fun q => kt (decide_eq_true q)) (fun q => kf (decide_eq_false q))
      · exact lv_icmp_ne hx hb hd ht (fun q => kt (by show (!decide (x = y)) = true; rw [decide_eq_false q]; rfl)) (fun q => kf (by show (!decide (x = y)) = false; rw [decide_eq_true q]; rfl))
      · exact lv_icmp_lt hx hb hd ht (fun q => kt (decide_eq_true q)) (fun q => kf (decide_eq_false q))
      · exact lv_icmp_ge hx hb hd ht (fun q => kt (decide_eq_true q)) (fun q => kf (decide_eq_false q))
      · exact lv_icmp_gt hx hb hd ht (fun q => kt (decide_eq_true q)) (fun q => kf (decide_eq_false q))
      · exact lv_icmp_le hx hb hd ht (fun q => kt (decide_eq_true q)) (fun q => kf (decide_eq_false q))
    · exact h.elim
  case ifnull off =>
    rw [show len = 3 from hlen] at hd
    have h : XR l d Q pc ls σ K (ifn false off pc ls st σ) := h
    unfold ifn at h
    split at h
    · next a r _ => exact s_br (st := .ref a :: r) hG hP hS hl (fun ht kt kf => lv_ifnull hx hb hd (kf rfl)) h
    · exact h.elim
  case ifnonnull off =>
    rw [show len = 3 from hlen] at hd
    have h : XR l d Q pc ls σ K (ifn true off pc ls st σ) := h
    unfold ifn at h
    split at h
    · next a r _ => exact s_br (st := .ref a :: r) hG hP hS hl (fun ht kt kf => lv_ifnonnull hx hb hd ht (kt rfl)) h
    · exact h.elim
  case goto off => rw [show len = 3 from hlen] at hd; exact s_br (b := true) (r := st) hG hP hS hl (fun ht kt kf => lv_goto hx hb hd ht (kt rfl)) h
  case tableswitch dflt lo hi offs => exact s_swt hC hG hP hS hl hd h
  case getfield i => rw [show len = 3 from hlen] at hd; exact s_gtF hC hG hP hS hl hd h
  case putfield i => rw [show len = 3 from hlen] at hd; exact s_ptF hC hG hP hS hl hd h
  case iaload => rw [show len = 1 from hlen] at hd; exact s_iald hC hG hP hS hl hd h
  case baload => rw [show len = 1 from hlen] at hd; exact s_zald hC hG hP hS hl hd h
  case iastore => rw [show len = 1 from hlen] at hd; exact s_iast hC hG hP hS hl hd h
  case bastore => rw [show len = 1 from hlen] at hd; exact s_zast hC hG hP hS hl hd h
  case aaload => rw [show len = 1 from hlen] at hd; exact s_aald hC hG hP hS hl hd h
  case arraylength => rw [show len = 1 from hlen] at hd; exact s_aln hC hG hP hS hl hd h
  case invokevirtual i => rw [show len = 3 from hlen] at hd; exact s_ivV hC hG hP hS hl hd h
  case invokestatic i => rw [show len = 3 from hlen] at hd; exact s_ivS hC hG hP hS hl hd h
  case ireturn =>
    rw [show len = 1 from hlen] at hd
    have h : XR l d Q pc ls σ K (rtI ty st) := h
    unfold rtI at h
    split at h
    · split at h
      · next hv => exact hE.2 _ _ _ _ _ _ h hP hS hd hv
      · exact h.elim
    · exact h.elim
  case return_ =>
    rw [show len = 1 from hlen] at hd
    have h : XR l d Q pc ls σ K (rtV ty st) := h
    unfold rtV at h
    split at h
    · split at h
      · next hv => exact hE.1 _ _ _ _ _ h hP hS hd hv
      · exact h.elim
    · exact h.elim
  all_goals exact False.elim h
theorem X_sound (hC : aCtx p R s m args c g A d sc o cc nL cells slots) (hE : aEnd p l e R s m args below meth c cells slots Z g A cc ty Q) : ∀ n : Nat, aGo p l e R s m args below meth c cells slots Z g A nL (aX l d sc o cc ty Q n) := by
  intro n
  induction n with
  | zero => exact fun _ _ _ _ _ _ _ h => h.elim
  | succ n ih =>
    intro pc ls st σ H locs ls' h hP hS hl
    obtain ⟨i, len, h1, h2, h3⟩ := h
    exact step_sound hC ih hE h1 h2 h3 hP hS hl
theorem E_sound (hC : aCtx p R s m args c g A d sc o cc nL cells slots) (hE : aEnd p l e R s m args below meth c cells slots Z g A cc ty Q) {pc : Nat} {ls : aL} {st : List Value} {σ : aW} {H : Heap} {locs : List Loc} {ls' : Array Slot} (h : aE l d sc o cc ty Q pc ls st σ)
    (hP : va_P g.1 classes (rws g σ) H) (hS : va_S A s.heap H locs) (hl : lo_has g.2.1 ls' nL ls) : W p l e R s m args below meth c H locs cells slots Z (F0 m pc ls' (st.map (rv g.2.1))) := by
  obtain ⟨n, h⟩ := h
  exact X_sound hC hE n _ _ _ _ _ _ _ h hP hS hl
end SND4
/-- the locals at a method's entry -/
def ent : List Value → List (Option Value)
  | [] => []
  | v :: t => if v.category = 2 then some v :: none :: ent t else some v :: ent t
def entL (as : List Value) (n : Nat) : aL := ent as ++ List.replicate (n - (ent as).length) none
theorem ent_len (ad : Nat → Nat) : ∀ as : List Value, (lg_sl (as.map (rv ad))).length = (ent as).length
  | [] => rfl
  | v :: t => by
    show (lg_sl (rv ad v :: t.map (rv ad))).length = _
    unfold lg_sl ent
    rw [List.flatMap_cons, List.length_append, rv_cat]
    have := ent_len ad t
    unfold lg_sl at this
    rw [this]
    split <;> simp <;> omega
theorem ent_args (ad : Nat → Nat) : ∀ (as : List Value) (i k : Nat) (v : Value), (ent as)[k]? = some (some v) → (i + k, rv ad v) ∈ lv_args i (as.map (rv ad))
  | [], i, k, v, h => by simp [ent] at h
  | w :: t, i, k, v, h => by
    show (i + k, rv ad v) ∈ (i, rv ad w) :: lv_args (if (rv ad w).category = 2 then i + 2 else i + 1) (t.map (rv ad))
    unfold ent at h
    rw [rv_cat]
    by_cases hc : w.category = 2
    · rw [if_pos hc] at h ⊢
      match k, h with
      | 0, h => cases h; exact List.mem_cons_self
      | 1, h => cases h
      | k + 2, h =>
        have := ent_args ad t (i + 2) k v h
        rw [show i + (k + 2) = i + 2 + k by omega]
        exact List.mem_cons_of_mem _ this
    · rw [if_neg hc] at h ⊢
      match k, h with
      | 0, h => cases h; exact List.mem_cons_self
      | k + 1, h =>
        have := ent_args ad t (i + 1) k v h
        rw [show i + (k + 1) = i + 1 + k by omega]
        exact List.mem_cons_of_mem _ this
theorem ent_lo (ad : Nat → Nat) (as : List Value) (n : Nat) (hn : (ent as).length ≤ n) : lo_has ad ((lg_sl (as.map (rv ad)) ++ List.replicate (n - (lg_sl (as.map (rv ad))).length) Slot.unset).toArray) n (entL as n) := by
  have h := lv_entry (as.map (rv ad)) (n := n) (by rw [ent_len]; exact hn)
  refine ⟨by unfold entL; simp; omega, h.1, h.2.1, fun k v hk => ?_⟩
  unfold entL at hk
  by_cases hl : k < (ent as).length
  · rw [List.getElem?_append_left hl] at hk
    have := ent_args ad as 0 k v hk
    rw [Nat.zero_add] at this
    exact h.2.2 _ this
  · rw [List.getElem?_append_right (by omega)] at hk
    rw [List.getElem?_replicate] at hk
    split at hk <;> cases hk
/-- a method's run in the abstract machine is a contract of the machine's -/
theorem Sem_of {l : Launch} {d j : Nat} {as : List Value} {σ σ' : aW} {r : Option Value} {mm : aM} (hm : mtt[j]? = some mm) (hn : (ent as).length ≤ mm.2.2.1) (h : aE l d none mm.2.2.2.2.2.1 mm.2.1 mm.2.2.2.1 (fun r' σ'' => r' = r ∧ σ'' = σ') 0 (entL as mm.2.2.1) [] σ) : Sem l (d + 1) j as σ r σ' := by
  refine ⟨mm, hm, fun g sz => ?_⟩
  obtain ⟨⟨n1, n2, n3, n4⟩, n5, n6, n7, n8, n9⟩ := mtt_at hm
  refine Met.ofW (cc := mm.2.1) (maxL := mm.2.2.1) (ret := mm.2.2.2.1) n1 rfl ?_
  intro p e s m args below meth c s₁ B hml hv
  obtain ⟨rfl, hsz, hP, hK, hNw, hD0⟩ := hv
  have hts0 := atoms_spec (ws := Cond.code mm.1 mm.2.1 mm.2.2.1 mm.2.2.2.1 :: gw) B.pre
  have hts : ∀ w ∈ gw, w.before (as.map (rv g.2.1)).toArray s = true := fun w hw => hts0 w (List.mem_cons_of_mem _ hw)
  have hown : s.vm.findClass mm.1.cls = some m.cls := findClass_of_methodNamed B.named
  have hlocks := B.notSynchronized
  subst hsz
  have hinj : ∀ i j, i < NP → j < NP → g.2.1 i = g.2.1 j → i = j := fun i j hi hj e9 => hD0.1 i j _ _ (rws_at g σ hi) (rws_at g σ hj) e9
  have hC : aCtx p (RD (d + 1)) s m (as.map (rv g.2.1)).toArray c g (va_A (rws g σ) s.heap.size) d none mm.2.2.2.2.2.1 mm.2.1 mm.2.2.1 0 0 :=
    ⟨B.exec, B.bytes, hml, by rw [← n5]; exact hown, hts, hK, hNw, hinj, fun i hi => Or.inl ⟨i, _, rws_at g σ hi⟩, fun q hq => Or.inr hq, ⟨Nat.le_refl _, Nat.le_refl _⟩, ⟨Nat.zero_le _, Nat.zero_le _⟩, fun q hq => by cases hq⟩
  have hE : aEnd p l e (RD (d + 1)) s m (as.map (rv g.2.1)).toArray below meth c 0 0 (MQ below (aPost g s.heap.size σ r σ') (as.map (rv g.2.1)).toArray s 0 0 (va_A (rws g σ) s.heap.size)) g (va_A (rws g σ) s.heap.size) mm.2.1 mm.2.2.2.1 (fun r' σ'' => r' = r ∧ σ'' = σ') := by
    refine ⟨fun τ H locs pc ls' hq hP9 hS9 hd9 hty => ?_, fun x τ H locs pc ls' hq hP9 hS9 hd9 hty => ?_⟩
    · obtain ⟨rfl, rfl⟩ := hq
      exact W.vret B.exec B.bytes (by rw [B.returns, hty]) (fun t ht hW => ⟨⟨rfl, by rw [ht]; exact hP9⟩, hS9.F ht⟩) hS9.2.2 hd9
    · obtain ⟨rfl, rfl⟩ := hq
      rcases hty with hty | ⟨hty, hx⟩
      · exact W.iret B.exec B.bytes (by rw [B.returns, hty]) (fun t ht hW => ⟨⟨rfl, by rw [ht]; exact hP9⟩, hS9.F ht⟩) hS9.2.2 hd9
      · exact W.zret (ty := .boolean) B.exec B.bytes (by rw [B.returns, hty]) (by rcases hx with rfl | rfl <;> decide +kernel) (fun t ht hW => ⟨⟨rfl, by rw [ht]; exact hP9⟩, hS9.F ht⟩) hS9.2.2 hd9
  rw [lg_entry_eq]
  exact E_sound (st := []) hC hE h hP va_S.rf (ent_lo g.2.1 as mm.2.2.1 hn)
theorem aC_of {l : Launch} {d j : Nat} {as : List Value} {σ : aW} {post : Option Value → aW → Prop} {mm : aM} (hm : mtt[j]? = some mm) (hn : (ent as).length ≤ mm.2.2.1) (h : aE l d none mm.2.2.2.2.2.1 mm.2.1 mm.2.2.2.1 post 0 (entL as mm.2.2.1) [] σ) : aC l (d + 1) j as σ post := by
  obtain ⟨n, h⟩ := h
  obtain ⟨r, σ', h1, h2⟩ := X_ex _ _ _ _ _ h
  exact ⟨r, σ', Sem_of hm hn ⟨n, h1⟩, h2⟩
end
section
/-! one rewriting rule an instruction, over the abstract machine -/
section RUL
variable {l : Launch} {d : Nat} {sc : Option (Nat × (Nat → Int32))} {o : Nat} {cc : ByteArray} {ty : Option FieldType} {Q : Option Value → aW → Prop} {pc : Nat} {ls : aL} {st : List Value} {σ : aW}
theorem q_iconst {n : Int} {v : Int32} (hd : decode cc pc = .ok (.iconst n, 1)) (hv : Int32.ofInt n = v) : aE l d sc o cc ty Q pc ls st σ = aE l d sc o cc ty Q (pc + 1) ls (.int v :: st) σ := by rw [← hv]; exact E_of hd rfl _ _ _
theorem q_bipush {n : Int} {v : Int32} (hd : decode cc pc = .ok (.bipush n, 2)) (hv : (Int8.ofInt n).toInt32 = v) : aE l d sc o cc ty Q pc ls st σ = aE l d sc o cc ty Q (pc + 2) ls (.int v :: st) σ := by rw [← hv]; exact E_of hd rfl _ _ _
theorem q_sipush {n : Int} {v : Int32} (hd : decode cc pc = .ok (.sipush n, 3)) (hv : (Int16.ofInt n).toInt32 = v) : aE l d sc o cc ty Q pc ls st σ = aE l d sc o cc ty Q (pc + 3) ls (.int v :: st) σ := by rw [← hv]; exact E_of hd rfl _ _ _
theorem q_lconst {n : Fin 2} {v : Int64} (hd : decode cc pc = .ok (.lconst n, 1)) (hv : Int64.ofNat (n : Nat) = v) : aE l d sc o cc ty Q pc ls st σ = aE l d sc o cc ty Q (pc + 1) ls (.long v :: st) σ := by rw [← hv]; exact E_of hd rfl _ _ _
theorem q_ldc {n : Nat} {v : Int32} (hd : decode cc pc = .ok (.ldc n, 2)) (hv : kl o n = some v) : aE l d sc o cc ty Q pc ls st σ = aE l d sc o cc ty Q (pc + 2) ls (.int v :: st) σ := by
  rw [E_of hd rfl]
  show XR l d Q pc ls σ _ ((kl o n).bind fun v => nx (pc + 2) ls (.int v :: st) σ) = _
  rw [hv]; rfl
theorem q_ldcw {n : Nat} {v : Int32} (hd : decode cc pc = .ok (.ldc_w n, 3)) (hv : kl o n = some v) : aE l d sc o cc ty Q pc ls st σ = aE l d sc o cc ty Q (pc + 3) ls (.int v :: st) σ := by
  rw [E_of hd rfl]
  show XR l d Q pc ls σ _ ((kl o n).bind fun v => nx (pc + 3) ls (.int v :: st) σ) = _
  rw [hv]; rfl
theorem q_ldc2 {n : Nat} {v : Int64} (hd : decode cc pc = .ok (.ldc2_w n, 3)) (hv : kL o n = some v) : aE l d sc o cc ty Q pc ls st σ = aE l d sc o cc ty Q (pc + 3) ls (.long v :: st) σ := by
  rw [E_of hd rfl]
  show XR l d Q pc ls σ _ ((kL o n).bind fun v => nx (pc + 3) ls (.long v :: st) σ) = _
  rw [hv]; rfl
theorem q_iload_n {k : Fin 4} {x : Int32} (hd : decode cc pc = .ok (.iload_n k, 1)) (hl : (ls[(k : Nat)]?).join = some (.int x)) : aE l d sc o cc ty Q pc ls st σ = aE l d sc o cc ty Q (pc + 1) ls (.int x :: st) σ := by
  rw [E_of hd rfl]
  show XR l d Q pc ls σ _ (ldI k (pc + 1) ls st σ) = _
  unfold ldI
  rw [hl]; rfl
theorem q_iload {k : Nat} {x : Int32} (hd : decode cc pc = .ok (.iload k, 2)) (hl : (ls[k]?).join = some (.int x)) : aE l d sc o cc ty Q pc ls st σ = aE l d sc o cc ty Q (pc + 2) ls (.int x :: st) σ := by
  rw [E_of hd rfl]
  show XR l d Q pc ls σ _ (ldI k (pc + 2) ls st σ) = _
  unfold ldI
  rw [hl]; rfl
theorem q_lload_n {k : Fin 4} {x : Int64} (hd : decode cc pc = .ok (.lload_n k, 1)) (hl : (ls[(k : Nat)]?).join = some (.long x)) : aE l d sc o cc ty Q pc ls st σ = aE l d sc o cc ty Q (pc + 1) ls (.long x :: st) σ := by
  rw [E_of hd rfl]
  show XR l d Q pc ls σ _ (ldL k (pc + 1) ls st σ) = _
  unfold ldL
  rw [hl]; rfl
theorem q_lload {k : Nat} {x : Int64} (hd : decode cc pc = .ok (.lload k, 2)) (hl : (ls[k]?).join = some (.long x)) : aE l d sc o cc ty Q pc ls st σ = aE l d sc o cc ty Q (pc + 2) ls (.long x :: st) σ := by
  rw [E_of hd rfl]
  show XR l d Q pc ls σ _ (ldL k (pc + 2) ls st σ) = _
  unfold ldL
  rw [hl]; rfl
theorem q_aload_n {k : Fin 4} {x : Nat} (hd : decode cc pc = .ok (.aload_n k, 1)) (hl : (ls[(k : Nat)]?).join = some (.ref x)) : aE l d sc o cc ty Q pc ls st σ = aE l d sc o cc ty Q (pc + 1) ls (.ref x :: st) σ := by
  rw [E_of hd rfl]
  show XR l d Q pc ls σ _ (ldA k (pc + 1) ls st σ) = _
  unfold ldA
  rw [hl]; rfl
theorem q_aload {k : Nat} {x : Nat} (hd : decode cc pc = .ok (.aload k, 2)) (hl : (ls[k]?).join = some (.ref x)) : aE l d sc o cc ty Q pc ls st σ = aE l d sc o cc ty Q (pc + 2) ls (.ref x :: st) σ := by
  rw [E_of hd rfl]
  show XR l d Q pc ls σ _ (ldA k (pc + 2) ls st σ) = _
  unfold ldA
  rw [hl]; rfl
theorem q_istore_n {k : Fin 4} {x : Int32} {ls2 : aL} (hd : decode cc pc = .ok (.istore_n k, 1)) (h1 : lok ls k = true) (h2 : (k : Nat) < ls.length) (h3 : ls.set k (some (.int x)) = ls2) : aE l d sc o cc ty Q pc ls (.int x :: st) σ = aE l d sc o cc ty Q (pc + 1) ls2 st σ := by
  rw [E_of hd rfl, ← h3]
  show XR l d Q pc ls σ _ (stI k (pc + 1) ls (.int x :: st) σ) = _
  unfold stI
  dsimp only
  rw [if_pos ⟨h1, h2⟩]; rfl
theorem q_istore {k : Nat} {x : Int32} {ls2 : aL} (hd : decode cc pc = .ok (.istore k, 2)) (h1 : lok ls k = true) (h2 : k < ls.length) (h3 : ls.set k (some (.int x)) = ls2) : aE l d sc o cc ty Q pc ls (.int x :: st) σ = aE l d sc o cc ty Q (pc + 2) ls2 st σ := by
  rw [E_of hd rfl, ← h3]
  show XR l d Q pc ls σ _ (stI k (pc + 2) ls (.int x :: st) σ) = _
  unfold stI
  dsimp only
  rw [if_pos ⟨h1, h2⟩]; rfl
theorem q_lstore_n {k : Fin 4} {x : Int64} {ls2 : aL} (hd : decode cc pc = .ok (.lstore_n k, 1)) (h1 : lok ls k = true) (h2 : (k : Nat) + 1 < ls.length) (h3 : (ls.set k (some (.long x))).set (k + 1) none = ls2) : aE l d sc o cc ty Q pc ls (.long x :: st) σ = aE l d sc o cc ty Q (pc + 1) ls2 st σ := by
  rw [E_of hd rfl, ← h3]
  show XR l d Q pc ls σ _ (stL k (pc + 1) ls (.long x :: st) σ) = _
  unfold stL
  dsimp only
  rw [if_pos ⟨h1, h2⟩]; rfl
theorem q_lstore {k : Nat} {x : Int64} {ls2 : aL} (hd : decode cc pc = .ok (.lstore k, 2)) (h1 : lok ls k = true) (h2 : k + 1 < ls.length) (h3 : (ls.set k (some (.long x))).set (k + 1) none = ls2) : aE l d sc o cc ty Q pc ls (.long x :: st) σ = aE l d sc o cc ty Q (pc + 2) ls2 st σ := by
  rw [E_of hd rfl, ← h3]
  show XR l d Q pc ls σ _ (stL k (pc + 2) ls (.long x :: st) σ) = _
  unfold stL
  dsimp only
  rw [if_pos ⟨h1, h2⟩]; rfl
theorem q_astore_n {k : Fin 4} {x : Nat} {ls2 : aL} (hd : decode cc pc = .ok (.astore_n k, 1)) (h1 : lok ls k = true) (h2 : (k : Nat) < ls.length) (h3 : ls.set k (some (.ref x)) = ls2) : aE l d sc o cc ty Q pc ls (.ref x :: st) σ = aE l d sc o cc ty Q (pc + 1) ls2 st σ := by
  rw [E_of hd rfl, ← h3]
  show XR l d Q pc ls σ _ (stA k (pc + 1) ls (.ref x :: st) σ) = _
  unfold stA
  dsimp only
  rw [if_pos ⟨h1, h2⟩]; rfl
theorem q_iinc {k : Nat} {n : Int} {x v : Int32} {ls2 : aL} (hd : decode cc pc = .ok (.iinc k n, 3)) (hl : (ls[k]?).join = some (.int x)) (h1 : lok ls k = true) (h2 : k < ls.length) (hv : Int32.ofInt n = v) (h3 : ls.set k (some (.int (x + v))) = ls2) : aE l d sc o cc ty Q pc ls st σ = aE l d sc o cc ty Q (pc + 3) ls2 st σ := by
  rw [E_of hd rfl, ← h3, ← hv]
  show XR l d Q pc ls σ _ (inc k n pc ls st σ) = _
  unfold inc
  rw [hl]
  dsimp only
  rw [if_pos ⟨h1, h2⟩]; rfl
theorem q_iadd {x y : Int32} (hd : decode cc pc = .ok (.iadd, 1)) : aE l d sc o cc ty Q pc ls (.int y :: .int x :: st) σ = aE l d sc o cc ty Q (pc + 1) ls (.int (x + y) :: st) σ := E_of hd rfl _ _ _
theorem q_isub {x y : Int32} (hd : decode cc pc = .ok (.isub, 1)) : aE l d sc o cc ty Q pc ls (.int y :: .int x :: st) σ = aE l d sc o cc ty Q (pc + 1) ls (.int (x - y) :: st) σ := E_of hd rfl _ _ _
theorem q_imul {x y : Int32} (hd : decode cc pc = .ok (.imul, 1)) : aE l d sc o cc ty Q pc ls (.int y :: .int x :: st) σ = aE l d sc o cc ty Q (pc + 1) ls (.int (x * y) :: st) σ := E_of hd rfl _ _ _
theorem q_iand {x y : Int32} (hd : decode cc pc = .ok (.iand, 1)) : aE l d sc o cc ty Q pc ls (.int y :: .int x :: st) σ = aE l d sc o cc ty Q (pc + 1) ls (.int (x &&& y) :: st) σ := E_of hd rfl _ _ _
theorem q_ior {x y : Int32} (hd : decode cc pc = .ok (.ior, 1)) : aE l d sc o cc ty Q pc ls (.int y :: .int x :: st) σ = aE l d sc o cc ty Q (pc + 1) ls (.int (x ||| y) :: st) σ := E_of hd rfl _ _ _
theorem q_ixor {x y : Int32} (hd : decode cc pc = .ok (.ixor, 1)) : aE l d sc o cc ty Q pc ls (.int y :: .int x :: st) σ = aE l d sc o cc ty Q (pc + 1) ls (.int (x ^^^ y) :: st) σ := E_of hd rfl _ _ _
theorem q_ishl {x y : Int32} (hd : decode cc pc = .ok (.ishl, 1)) : aE l d sc o cc ty Q pc ls (.int y :: .int x :: st) σ = aE l d sc o cc ty Q (pc + 1) ls (.int (x <<< (y &&& 31)) :: st) σ := E_of hd rfl _ _ _
theorem q_ishr {x y : Int32} (hd : decode cc pc = .ok (.ishr, 1)) : aE l d sc o cc ty Q pc ls (.int y :: .int x :: st) σ = aE l d sc o cc ty Q (pc + 1) ls (.int (x >>> (y &&& 31)) :: st) σ := E_of hd rfl _ _ _
theorem q_iushr {x y : Int32} (hd : decode cc pc = .ok (.iushr, 1)) : aE l d sc o cc ty Q pc ls (.int y :: .int x :: st) σ = aE l d sc o cc ty Q (pc + 1) ls (.int (x.toUInt32 >>> (y.toUInt32 &&& Int32.toUInt32 31)).toInt32 :: st) σ := E_of hd rfl _ _ _
theorem q_divI {x y : Int32} {f : Int32 → Int32 → Int32} {i : Instr} (hd : decode cc pc = .ok (i, 1)) (hl : 1 = lenI i 1) (hs : ∀ st, stepA sc o ty i pc ls st σ = divI f pc ls st σ) : aE l d sc o cc ty Q pc ls (.int y :: .int x :: st) σ = (¬ y = 0 ∧ aE l d sc o cc ty Q (pc + 1) ls (.int (f x y) :: st) σ) := by
  rw [E_of hd hl, hs]
  unfold divI
  dsimp only
  by_cases hy : y = 0
  · rw [if_pos hy]
    exact propext ⟨fun h => h.elim, fun h => absurd hy h.1⟩
  · rw [if_neg hy]
    exact propext ⟨fun h => ⟨hy, h⟩, fun h => h.2⟩
theorem q_idiv {x y : Int32} (hd : decode cc pc = .ok (.idiv, 1)) : aE l d sc o cc ty Q pc ls (.int y :: .int x :: st) σ = (¬ y = 0 ∧ aE l d sc o cc ty Q (pc + 1) ls (.int (x / y) :: st) σ) := q_divI (f := fun x y => x / y) hd rfl (fun _ => rfl)
theorem q_irem {x y : Int32} (hd : decode cc pc = .ok (.irem, 1)) : aE l d sc o cc ty Q pc ls (.int y :: .int x :: st) σ = (¬ y = 0 ∧ aE l d sc o cc ty Q (pc + 1) ls (.int (x - x / y * y) :: st) σ) := q_divI (f := fun x y => x - x / y * y) hd rfl (fun _ => rfl)
theorem q_divL {x y : Int64} {f : Int64 → Int64 → Int64} {i : Instr} (hd : decode cc pc = .ok (i, 1)) (hl : 1 = lenI i 1) (hs : ∀ st, stepA sc o ty i pc ls st σ = divL f pc ls st σ) : aE l d sc o cc ty Q pc ls (.long y :: .long x :: st) σ = (¬ y = 0 ∧ aE l d sc o cc ty Q (pc + 1) ls (.long (f x y) :: st) σ) := by
  rw [E_of hd hl, hs]
  unfold divL
  dsimp only
  by_cases hy : y = 0
  · rw [if_pos hy]
    exact propext ⟨fun h => h.elim, fun h => absurd hy h.1⟩
  · rw [if_neg hy]
    exact propext ⟨fun h => ⟨hy, h⟩, fun h => h.2⟩
theorem q_ldiv {x y : Int64} (hd : decode cc pc = .ok (.ldiv, 1)) : aE l d sc o cc ty Q pc ls (.long y :: .long x :: st) σ = (¬ y = 0 ∧ aE l d sc o cc ty Q (pc + 1) ls (.long (x / y) :: st) σ) := q_divL (f := fun x y => x / y) hd rfl (fun _ => rfl)
theorem q_lrem {x y : Int64} (hd : decode cc pc = .ok (.lrem, 1)) : aE l d sc o cc ty Q pc ls (.long y :: .long x :: st) σ = (¬ y = 0 ∧ aE l d sc o cc ty Q (pc + 1) ls (.long (x - x / y * y) :: st) σ) := q_divL (f := fun x y => x - x / y * y) hd rfl (fun _ => rfl)
theorem q_ladd {x y : Int64} (hd : decode cc pc = .ok (.ladd, 1)) : aE l d sc o cc ty Q pc ls (.long y :: .long x :: st) σ = aE l d sc o cc ty Q (pc + 1) ls (.long (x + y) :: st) σ := E_of hd rfl _ _ _
theorem q_lmul {x y : Int64} (hd : decode cc pc = .ok (.lmul, 1)) : aE l d sc o cc ty Q pc ls (.long y :: .long x :: st) σ = aE l d sc o cc ty Q (pc + 1) ls (.long (x * y) :: st) σ := E_of hd rfl _ _ _
theorem q_land {x y : Int64} (hd : decode cc pc = .ok (.land, 1)) : aE l d sc o cc ty Q pc ls (.long y :: .long x :: st) σ = aE l d sc o cc ty Q (pc + 1) ls (.long (x &&& y) :: st) σ := E_of hd rfl _ _ _
theorem q_i2l {x : Int32} (hd : decode cc pc = .ok (.i2l, 1)) : aE l d sc o cc ty Q pc ls (.int x :: st) σ = aE l d sc o cc ty Q (pc + 1) ls (.long x.toInt64 :: st) σ := E_of hd rfl _ _ _
theorem q_l2i {x : Int64} (hd : decode cc pc = .ok (.l2i, 1)) : aE l d sc o cc ty Q pc ls (.long x :: st) σ = aE l d sc o cc ty Q (pc + 1) ls (.int x.toInt32 :: st) σ := E_of hd rfl _ _ _
theorem q_lcmp {x y : Int64} (hd : decode cc pc = .ok (.lcmp, 1)) : aE l d sc o cc ty Q pc ls (.long y :: .long x :: st) σ = aE l d sc o cc ty Q (pc + 1) ls (.int (lg_cmp x y) :: st) σ := E_of hd rfl _ _ _
theorem q_dup {v : Value} (hd : decode cc pc = .ok (.dup, 1)) (hv : v.category = 1) : aE l d sc o cc ty Q pc ls (v :: st) σ = aE l d sc o cc ty Q (pc + 1) ls (v :: v :: st) σ := by
  rw [E_of hd rfl]
  show XR l d Q pc ls σ _ (du1 pc ls (v :: st) σ) = _
  unfold du1
  dsimp only
  rw [if_pos hv]; rfl
theorem q_pop {v : Value} (hd : decode cc pc = .ok (.pop, 1)) (hv : v.category = 1) : aE l d sc o cc ty Q pc ls (v :: st) σ = aE l d sc o cc ty Q (pc + 1) ls st σ := by
  rw [E_of hd rfl]
  show XR l d Q pc ls σ _ (pp1 pc ls (v :: st) σ) = _
  unfold pp1
  dsimp only
  rw [if_pos hv]; rfl
theorem q_dup2 {v w : Value} (hd : decode cc pc = .ok (.dup2, 1)) (hv : v.category = 1) (hw : w.category = 1) : aE l d sc o cc ty Q pc ls (v :: w :: st) σ = aE l d sc o cc ty Q (pc + 1) ls (v :: w :: v :: w :: st) σ := by
  rw [E_of hd rfl]
  show XR l d Q pc ls σ _ (du2 pc ls (v :: w :: st) σ) = _
  unfold du2
  dsimp only
  rw [if_pos ⟨hv, hw⟩]; rfl
theorem q_br {b : Bool} {off : Int} {t : Nat} {r : List Value} {P : Prop} (h : P = XR l d Q pc ls σ (aE l d sc o cc ty Q) (brI b off pc ls r σ)) (ht : (pc : Int) + off = (t : Int)) : P = if b = true then aE l d sc o cc ty Q t ls r σ else aE l d sc o cc ty Q (pc + 3) ls r σ := by
  rw [h]
  unfold brI
  rw [if_pos (by omega), show tg pc off = t by unfold tg; omega]
  cases b <;> rfl
theorem q_if1 {c : ClassFile.Cond} {off : Int} {t : Nat} {x : Int32} (hd : decode cc pc = .ok (.ifCond c off, 3)) (ht : (pc : Int) + off = (t : Int)) : aE l d sc o cc ty Q pc ls (.int x :: st) σ = if ccI c x 0 = true then aE l d sc o cc ty Q t ls st σ else aE l d sc o cc ty Q (pc + 3) ls st σ := q_br (E_of hd rfl _ _ _) ht
theorem q_if2 {c : ClassFile.Cond} {off : Int} {t : Nat} {x y : Int32} (hd : decode cc pc = .ok (.if_icmp c off, 3)) (ht : (pc : Int) + off = (t : Int)) : aE l d sc o cc ty Q pc ls (.int y :: .int x :: st) σ = if ccI c x y = true then aE l d sc o cc ty Q t ls st σ else aE l d sc o cc ty Q (pc + 3) ls st σ := q_br (E_of hd rfl _ _ _) ht
theorem q_goto {off : Int} {t : Nat} (hd : decode cc pc = .ok (.goto off, 3)) (ht : (pc : Int) + off = (t : Int)) : aE l d sc o cc ty Q pc ls st σ = aE l d sc o cc ty Q t ls st σ := by
  have := q_br (l := l) (d := d) (sc := sc) (o := o) (cc := cc) (ty := ty) (Q := Q) (b := true) (r := st) (E_of hd rfl ls st σ) ht
  rw [if_pos rfl] at this
  exact this
theorem q_ifnull {off : Int} {a : Nat} {t : Nat} (hd : decode cc pc = .ok (.ifnull off, 3)) (ht : (pc : Int) + off = (t : Int)) : aE l d sc o cc ty Q pc ls (.ref a :: st) σ = aE l d sc o cc ty Q (pc + 3) ls st σ := by
  have := q_br (l := l) (d := d) (sc := sc) (o := o) (cc := cc) (ty := ty) (Q := Q) (b := false) (r := st) (E_of hd rfl ls (.ref a :: st) σ) ht
  rw [if_neg (by decide)] at this
  exact this
theorem q_ifnonnull {off : Int} {a : Nat} {t : Nat} (hd : decode cc pc = .ok (.ifnonnull off, 3)) (ht : (pc : Int) + off = (t : Int)) : aE l d sc o cc ty Q pc ls (.ref a :: st) σ = aE l d sc o cc ty Q t ls st σ := by
  have := q_br (l := l) (d := d) (sc := sc) (o := o) (cc := cc) (ty := ty) (Q := Q) (b := true) (r := st) (E_of hd rfl ls (.ref a :: st) σ) ht
  rw [if_pos rfl] at this
  exact this
theorem dI {α : Prop} {a b : Prop} [Decidable α] : (if decide α = true then a else b) = if α then a else b := by
  by_cases h : α <;> simp [h]
theorem dN {α : Prop} {a b : Prop} [Decidable α] : (if (!decide α) = true then a else b) = if α then b else a := by
  by_cases h : α <;> simp [h]
theorem q_eq1 {off : Int} {t : Nat} {x : Int32} (hd : decode cc pc = .ok (.ifCond .eq off, 3)) (ht : (pc : Int) + off = (t : Int)) : aE l d sc o cc ty Q pc ls (.int x :: st) σ = if x = 0 then aE l d sc o cc ty Q t ls st σ else aE l d sc o cc ty Q (pc + 3) ls st σ := (q_if1 hd ht).trans dI
theorem q_ne1 {off : Int} {t : Nat} {x : Int32} (hd : decode cc pc = .ok (.ifCond .ne off, 3)) (ht : (pc : Int) + off = (t : Int)) : aE l d sc o cc ty Q pc ls (.int x :: st) σ = if x = 0 then aE l d sc o cc ty Q (pc + 3) ls st σ else aE l d sc o cc ty Q t ls st σ := (q_if1 hd ht).trans dN
theorem q_lt1 {off : Int} {t : Nat} {x : Int32} (hd : decode cc pc = .ok (.ifCond .lt off, 3)) (ht : (pc : Int) + off = (t : Int)) : aE l d sc o cc ty Q pc ls (.int x :: st) σ = if x < 0 then aE l d sc o cc ty Q t ls st σ else aE l d sc o cc ty Q (pc + 3) ls st σ := (q_if1 hd ht).trans dI
theorem q_ge1 {off : Int} {t : Nat} {x : Int32} (hd : decode cc pc = .ok (.ifCond .ge off, 3)) (ht : (pc : Int) + off = (t : Int)) : aE l d sc o cc ty Q pc ls (.int x :: st) σ = if 0 ≤ x then aE l d sc o cc ty Q t ls st σ else aE l d sc o cc ty Q (pc + 3) ls st σ := (q_if1 hd ht).trans dI
theorem q_gt1 {off : Int} {t : Nat} {x : Int32} (hd : decode cc pc = .ok (.ifCond .gt off, 3)) (ht : (pc : Int) + off = (t : Int)) : aE l d sc o cc ty Q pc ls (.int x :: st) σ = if 0 < x then aE l d sc o cc ty Q t ls st σ else aE l d sc o cc ty Q (pc + 3) ls st σ := (q_if1 hd ht).trans dI
theorem q_le1 {off : Int} {t : Nat} {x : Int32} (hd : decode cc pc = .ok (.ifCond .le off, 3)) (ht : (pc : Int) + off = (t : Int)) : aE l d sc o cc ty Q pc ls (.int x :: st) σ = if x ≤ 0 then aE l d sc o cc ty Q t ls st σ else aE l d sc o cc ty Q (pc + 3) ls st σ := (q_if1 hd ht).trans dI
theorem q_eq2 {off : Int} {t : Nat} {x y : Int32} (hd : decode cc pc = .ok (.if_icmp .eq off, 3)) (ht : (pc : Int) + off = (t : Int)) : aE l d sc o cc ty Q pc ls (.int y :: .int x :: st) σ = if x = y then aE l d sc o cc ty Q t ls st σ else aE l d sc o cc ty Q (pc + 3) ls st σ := (q_if2 hd ht).trans dI
theorem q_ne2 {off : Int} {t : Nat} {x y : Int32} (hd : decode cc pc = .ok (.if_icmp .ne off, 3)) (ht : (pc : Int) + off = (t : Int)) : aE l d sc o cc ty Q pc ls (.int y :: .int x :: st) σ = if x = y then aE l d sc o cc ty Q (pc + 3) ls st σ else aE l d sc o cc ty Q t ls st σ := (q_if2 hd ht).trans dN
theorem q_lt2 {off : Int} {t : Nat} {x y : Int32} (hd : decode cc pc = .ok (.if_icmp .lt off, 3)) (ht : (pc : Int) + off = (t : Int)) : aE l d sc o cc ty Q pc ls (.int y :: .int x :: st) σ = if x < y then aE l d sc o cc ty Q t ls st σ else aE l d sc o cc ty Q (pc + 3) ls st σ := (q_if2 hd ht).trans dI
theorem q_ge2 {off : Int} {t : Nat} {x y : Int32} (hd : decode cc pc = .ok (.if_icmp .ge off, 3)) (ht : (pc : Int) + off = (t : Int)) : aE l d sc o cc ty Q pc ls (.int y :: .int x :: st) σ = if y ≤ x then aE l d sc o cc ty Q t ls st σ else aE l d sc o cc ty Q (pc + 3) ls st σ := (q_if2 hd ht).trans dI
theorem q_gt2 {off : Int} {t : Nat} {x y : Int32} (hd : decode cc pc = .ok (.if_icmp .gt off, 3)) (ht : (pc : Int) + off = (t : Int)) : aE l d sc o cc ty Q pc ls (.int y :: .int x :: st) σ = if y < x then aE l d sc o cc ty Q t ls st σ else aE l d sc o cc ty Q (pc + 3) ls st σ := (q_if2 hd ht).trans dI
theorem q_le2 {off : Int} {t : Nat} {x y : Int32} (hd : decode cc pc = .ok (.if_icmp .le off, 3)) (ht : (pc : Int) + off = (t : Int)) : aE l d sc o cc ty Q pc ls (.int y :: .int x :: st) σ = if x ≤ y then aE l d sc o cc ty Q t ls st σ else aE l d sc o cc ty Q (pc + 3) ls st σ := (q_if2 hd ht).trans dI
def icl : List (List Bool) := [[false, false, false], [true, false, false], [true, true, true, true, true, true, false, false, false, false, false], [true], [true, true, false], [false, true, true, false, true, true], [true, false, false], [true, true, true, true, true, true, true, false, false], [false, true, false, false, false], [false, false, false, false, false, false, false, false, false], [true, true, true, true, true, false, false, false, true, false, false, true, false, true, true, true, true, true, false, true, false, false, false, false, true, false, true, false, false, false, false, true, true, false, false, true, false, false, false, false]]
theorem icl_all : shl.all (fun q => match q with
  | .inl q => decide (icl[q.1]? = some (q.2.map Option.isNone))
  | _ => true) = true := by decide +kernel
def isI (ci k : Nat) : Option Bool := (icl.getD ci []).getD k true |> fun b => if k < (icl.getD ci []).length then some b else none
theorem isI_spec {a ci k : Nat} {b : Bool} (h : cls a = ci) (hc : ci ≠ 99) (hb : isI ci k = some b) : (b = true → slt a k = some none) ∧ (b = false → slt a k = some (some (rf a k))) := by
  obtain ⟨sl, hs⟩ := cls_spec h hc
  have h1 := List.all_eq_true.mp icl_all _ (List.mem_of_getElem? hs)
  have h2 : icl[ci]? = some (sl.map Option.isNone) := of_decide_eq_true h1
  have h3 : icl.getD ci [] = sl.map Option.isNone := by simp [List.getD, h2]
  unfold isI at hb
  rw [h3] at hb
  dsimp only at hb
  split at hb
  · next hk =>
    simp at hk
    have h4 : slt a k = some (sl[k]) := by rw [slt_at hs]; simp [hk]
    have h5 : (sl[k]).isNone = b := by
      have := Option.some.inj hb
      simpa [List.getD, hk] using this
    cases hv : sl[k] with
    | none =>
      rw [hv] at h5 h4
      refine ⟨fun _ => h4, fun q => ?_⟩
      rw [q] at h5
      cases h5
    | some t =>
      rw [hv] at h5 h4
      refine ⟨fun q => ?_, fun _ => ?_⟩
      · rw [q] at h5
        cases h5
      · unfold rf
        rw [h4]
  · cases hb
theorem q_gtI {i ci k a : Nat} (hd : decode cc pc = .ok (.getfield i, 3)) (hf : fl o i = some (ci, k)) (hc : ci ≠ 99) (hb : isI ci k = some true) (h : cls a = ci) : aE l d sc o cc ty Q pc ls (.ref a :: st) σ = aE l d sc o cc ty Q (pc + 3) ls (.int (σ a k) :: st) σ := by
  rw [E_of hd rfl]
  show XR l d Q pc ls σ _ (gtF o i pc ls (.ref a :: st) σ) = _
  unfold gtF
  simp only [hf, h, if_true, (isI_spec h hc hb).1 rfl]
  rfl
theorem q_gtR {i ci k a : Nat} (hd : decode cc pc = .ok (.getfield i, 3)) (hf : fl o i = some (ci, k)) (hc : ci ≠ 99) (hb : isI ci k = some false) (h : cls a = ci) : aE l d sc o cc ty Q pc ls (.ref a :: st) σ = aE l d sc o cc ty Q (pc + 3) ls (.ref (rf a k) :: st) σ := by
  rw [E_of hd rfl]
  show XR l d Q pc ls σ _ (gtF o i pc ls (.ref a :: st) σ) = _
  unfold gtF
  simp only [hf, h, if_true, (isI_spec h hc hb).2 rfl]
  rfl
theorem q_pt {i ci k a : Nat} {v : Int32} (hd : decode cc pc = .ok (.putfield i, 3)) (hf : fl o i = some (ci, k)) (hc : ci ≠ 99) (hb : isI ci k = some true) (h : cls a = ci) : aE l d sc o cc ty Q pc ls (.int v :: .ref a :: st) σ = aE l d sc o cc ty Q (pc + 3) ls st (su σ a k v) := by
  rw [E_of hd rfl]
  show XR l d Q pc ls σ _ (ptF o i pc ls (.int v :: .ref a :: st) σ) = _
  unfold ptF
  simp only [hf]
  rw [if_pos ⟨h, (isI_spec h hc hb).1 rfl⟩]
  rfl
theorem q_inb {i : Int32} {n : Nat} {P : Prop} {r : Option aR} {K : Nat → aL → List Value → aW → Prop} (h : XR l d Q pc ls σ K r = P) : XR l d Q pc ls σ K (if i < 0 ∨ n ≤ i.toNatClampNeg then none else r) = (vp_in i n ∧ P) := by
  by_cases hi : i < 0 ∨ n ≤ i.toNatClampNeg
  · rw [if_pos hi]
    exact propext ⟨fun q => q.elim, fun q => absurd hi q.1⟩
  · rw [if_neg hi, h]
    exact propext ⟨fun q => ⟨hi, q⟩, fun q => q.2⟩
theorem q_iald {i : Int32} {a : Nat} (hd : decode cc pc = .ok (.iaload, 1)) (h : akd a = 0) : aE l d sc o cc ty Q pc ls (.int i :: .ref a :: st) σ = (vp_in i (aln a) ∧ aE l d sc o cc ty Q (pc + 1) ls (.int (σ a i.toNatClampNeg) :: st) σ) := by
  rw [E_of hd rfl]
  show XR l d Q pc ls σ _ (ald sc 0 pc ls (.int i :: .ref a :: st) σ) = _
  unfold ald
  dsimp only
  rw [if_pos h]
  exact q_inb rfl
theorem q_sald {i : Int32} {q : Nat × (Nat → Int32)} (hd : decode cc pc = .ok (.iaload, 1)) : aE l d (some q) o cc ty Q pc ls (.int i :: .ref NP :: st) σ = (vp_in i q.1 ∧ aE l d (some q) o cc ty Q (pc + 1) ls (.int (q.2 i.toNatClampNeg) :: st) σ) := by
  rw [E_of hd rfl]
  show XR l d Q pc ls σ _ (ald (some q) 0 pc ls (.int i :: .ref NP :: st) σ) = _
  unfold ald
  dsimp only
  rw [if_neg (by decide +kernel), if_pos ⟨rfl, rfl⟩]
  exact q_inb rfl
theorem q_alen {q : Nat × (Nat → Int32)} (hd : decode cc pc = .ok (.arraylength, 1)) : aE l d (some q) o cc ty Q pc ls (.ref NP :: st) σ = aE l d (some q) o cc ty Q (pc + 1) ls (.int (Int32.ofNat q.1) :: st) σ := by
  rw [E_of hd rfl]
  show XR l d Q pc ls σ _ (aln1 (some q) pc ls (.ref NP :: st) σ) = _
  unfold aln1
  dsimp only
  rw [if_pos rfl]
  rfl
theorem q_bald {i : Int32} {a : Nat} (hd : decode cc pc = .ok (.baload, 1)) (h : akd a = 1) : aE l d sc o cc ty Q pc ls (.int i :: .ref a :: st) σ = (vp_in i (aln a) ∧ aE l d sc o cc ty Q (pc + 1) ls (.int (σ a i.toNatClampNeg) :: st) σ) := by
  rw [E_of hd rfl]
  show XR l d Q pc ls σ _ (ald none 1 pc ls (.int i :: .ref a :: st) σ) = _
  unfold ald
  dsimp only
  rw [if_pos h]
  exact q_inb rfl
theorem q_iast {i x : Int32} {a : Nat} (hd : decode cc pc = .ok (.iastore, 1)) (h : akd a = 0) : aE l d sc o cc ty Q pc ls (.int x :: .int i :: .ref a :: st) σ = (vp_in i (aln a) ∧ aE l d sc o cc ty Q (pc + 1) ls st (su σ a i.toNatClampNeg x)) := by
  rw [E_of hd rfl]
  show XR l d Q pc ls σ _ (ast 0 (fun x => x) pc ls (.int x :: .int i :: .ref a :: st) σ) = _
  unfold ast
  dsimp only
  rw [if_pos h]
  exact q_inb rfl
theorem q_bast {i x : Int32} {a : Nat} (hd : decode cc pc = .ok (.bastore, 1)) (h : akd a = 1) : aE l d sc o cc ty Q pc ls (.int x :: .int i :: .ref a :: st) σ = (vp_in i (aln a) ∧ aE l d sc o cc ty Q (pc + 1) ls st (su σ a i.toNatClampNeg (vp_nar .boolean x))) := by
  rw [E_of hd rfl]
  show XR l d Q pc ls σ _ (ast 1 (vp_nar .boolean) pc ls (.int x :: .int i :: .ref a :: st) σ) = _
  unfold ast
  dsimp only
  rw [if_pos h]
  exact q_inb rfl
theorem q_aald {i : Int32} {a : Nat} (hd : decode cc pc = .ok (.aaload, 1)) (h : akd a = 2 ∨ akd a = 3) : aE l d sc o cc ty Q pc ls (.int i :: .ref a :: st) σ = (vp_in i (aln a) ∧ aE l d sc o cc ty Q (pc + 1) ls (.ref (rel a i.toNatClampNeg) :: st) σ) := by
  rw [E_of hd rfl]
  show XR l d Q pc ls σ _ (aald pc ls (.int i :: .ref a :: st) σ) = _
  unfold aald
  dsimp only
  rw [if_pos h]
  exact q_inb rfl
theorem q_max {i : Nat} {x y : Int32} (hd : decode cc pc = .ok (.invokestatic i, 3)) (hm : ml o i = some 1000) (hr : rsz st ≤ 8) : aE l d sc o cc ty Q pc ls (.int y :: .int x :: st) σ = aE l d sc o cc ty Q (pc + 3) ls (.int (if x < y then y else x) :: st) σ := by
  rw [E_of hd rfl]
  show XR l d Q pc ls σ _ (ivS o i pc ls (.int y :: .int x :: st) σ) = _
  unfold ivS
  simp only [hm]
  unfold mm2
  dsimp only
  rw [if_pos hr]
  rfl
theorem q_min {i : Nat} {x y : Int32} (hd : decode cc pc = .ok (.invokestatic i, 3)) (hm : ml o i = some 1001) (hr : rsz st ≤ 8) : aE l d sc o cc ty Q pc ls (.int y :: .int x :: st) σ = aE l d sc o cc ty Q (pc + 3) ls (.int (if y < x then y else x) :: st) σ := by
  rw [E_of hd rfl]
  show XR l d Q pc ls σ _ (ivS o i pc ls (.int y :: .int x :: st) σ) = _
  unfold ivS
  simp only [hm]
  unfold mm2
  dsimp only
  rw [if_pos hr]
  rfl
theorem q_cpy {i : Nat} {n dp sp : Int32} {a b : Nat} (hd : decode cc pc = .ok (.invokestatic i, 3)) (hm : ml o i = some 1002) (hr : rsz st ≤ 8) (ha : akd a = 0) (hb : akd b = 0) (h1 : ¬ sp < 0) (h2 : ¬ dp < 0) (h3 : ¬ n < 0) (h4 : sp.toNatClampNeg + n.toNatClampNeg ≤ aln a) (h5 : dp.toNatClampNeg + n.toNatClampNeg ≤ aln b) : aE l d sc o cc ty Q pc ls (.int n :: .int dp :: .ref b :: .int sp :: .ref a :: st) σ = aE l d sc o cc ty Q (pc + 3) ls st (sy σ a b sp.toNatClampNeg dp.toNatClampNeg n.toNatClampNeg) := by
  rw [E_of hd rfl]
  show XR l d Q pc ls σ _ (ivS o i pc ls (.int n :: .int dp :: .ref b :: .int sp :: .ref a :: st) σ) = _
  unfold ivS
  simp only [hm]
  unfold cpy
  dsimp only
  rw [if_pos ⟨ha, hb, h1, h2, h3, h4, h5, hr⟩]
  rfl
theorem q_ivV {i j : Nat} {mm : aM} {as : List Value} {a : Nat} {s0 : List Value} (hd : decode cc pc = .ok (.invokevirtual i, 3)) (hm : ml o i = some j) (hmm : mtt[j]? = some mm) (h1 : mm.2.2.2.2.2.2 = false) (h2 : s0.drop mm.2.2.2.2.1 = .ref a :: st) (h3 : (s0.take mm.2.2.2.2.1).reverse = as) (h4 : mm.2.2.2.2.1 ≤ s0.length) (hc : cls a = mm.2.2.2.2.2.1) (hr : rsz st ≤ 8) : aE l d sc o cc ty Q pc ls s0 σ = aC l d j (.ref a :: as) σ (fun r σ' => aE l d sc o cc ty Q (pc + 3) ls (r.toList ++ st) σ') := by
  rw [E_of hd rfl, ← h3]
  show XR l d Q pc ls σ _ (ivV o i s0) = _
  unfold ivV
  simp only [hm]
  unfold clV
  simp only [hmm, h2]
  rw [if_pos ⟨h1, hc, hr, h4⟩]
  rfl
theorem q_ivS {i j : Nat} {mm : aM} {as : List Value} {s0 : List Value} (hd : decode cc pc = .ok (.invokestatic i, 3)) (hm : ml o i = some j) (hj : j < 1000) (hmm : mtt[j]? = some mm) (h1 : mm.2.2.2.2.2.2 = true) (h2 : s0.drop mm.2.2.2.2.1 = st) (h3 : (s0.take mm.2.2.2.2.1).reverse = as) (h4 : mm.2.2.2.2.1 ≤ s0.length) (hr : rsz st ≤ 8) : aE l d sc o cc ty Q pc ls s0 σ = aC l d j as σ (fun r σ' => aE l d sc o cc ty Q (pc + 3) ls (r.toList ++ st) σ') := by
  rw [E_of hd rfl, ← h3]
  show XR l d Q pc ls σ _ (ivS o i pc ls s0 σ) = _
  have : ivS o i pc ls s0 σ = clS j s0 := by
    unfold ivS
    split
    · next h => rw [hm] at h; cases h; omega
    · next h => rw [hm] at h; cases h; omega
    · next h => rw [hm] at h; cases h; omega
    · next h => rw [hm] at h; cases h; rfl
    · next h => rw [hm] at h; cases h
  rw [this]
  unfold clS
  simp only [hmm, h2]
  rw [if_pos ⟨h1, hr, h4⟩]
  rfl
theorem q_ivN {i j : Nat} {mm : aM} {as : List Value} {s0 : List Value} {q : Nat × Nat × Nat} (hd : decode cc pc = .ok (.invokestatic i, 3)) (hm : ml o i = none) (hn : nlt.find? (fun q => q.1 == o && q.2.1 == i) = some q) (hj : q.2.2 = j) (hmm : mtt[j]? = some mm) (h1 : mm.2.2.2.2.2.2 = true) (h2 : s0.drop mm.2.2.2.2.1 = st) (h3 : (s0.take mm.2.2.2.2.1).reverse = as) (h4 : mm.2.2.2.2.1 ≤ s0.length) (hr : rsz st ≤ 8) : aE l d sc o cc ty Q pc ls s0 σ = aC l d j as σ (fun r σ' => aE l d sc o cc ty Q (pc + 3) ls (r.toList ++ st) σ') := by
  rw [E_of hd rfl, ← h3]
  show XR l d Q pc ls σ _ (ivS o i pc ls s0 σ) = _
  have : ivS o i pc ls s0 σ = clS j s0 := by
    unfold ivS
    simp only [hm, hn, hj]
  rw [this]
  unfold clS
  simp only [hmm, h2]
  rw [if_pos ⟨h1, hr, h4⟩]
  rfl
theorem q_iret {v : Int32} (hd : decode cc pc = .ok (.ireturn, 1)) : aE l d sc o cc (some .int) Q pc ls [.int v] σ = Q (some (.int v)) σ := by
  rw [E_of hd rfl]
  show XR l d Q pc ls σ _ (rtI (some .int) [.int v]) = _
  unfold rtI
  dsimp only
  rw [if_pos (Or.inl rfl)]
  rfl
theorem q_zret {v : Int32} (hd : decode cc pc = .ok (.ireturn, 1)) : aE l d sc o cc (some .boolean) Q pc ls [.int v] σ = ((v = 0 ∨ v = 1) ∧ Q (some (.int v)) σ) := by
  rw [E_of hd rfl]
  show XR l d Q pc ls σ _ (rtI (some .boolean) [.int v]) = _
  unfold rtI
  dsimp only
  by_cases hv : v = 0 ∨ v = 1
  · rw [if_pos (Or.inr ⟨rfl, hv⟩)]
    exact propext ⟨fun h => ⟨hv, h⟩, fun h => h.2⟩
  · rw [if_neg (fun h => h.elim (fun q => by cases q) (fun q => hv q.2))]
    exact propext ⟨fun h => h.elim, fun h => absurd h.1 hv⟩
theorem q_vret (hd : decode cc pc = .ok (.return_, 1)) : aE l d sc o cc none Q pc ls [] σ = Q none σ := by
  rw [E_of hd rfl]
  show XR l d Q pc ls σ _ (rtV none []) = _
  unfold rtV
  dsimp only
  rw [if_pos rfl]
  rfl
theorem q_swt {dflt lo hi : Int} {offs : Array Int} {len t : Nat} {x : Int32} {off : Int} (hd : decode cc pc = .ok (.tableswitch dflt lo hi offs, len)) (hx : tsw dflt lo hi offs x = some off) (ht : (pc : Int) + off = (t : Int)) : aE l d sc o cc ty Q pc ls (.int x :: st) σ = aE l d sc o cc ty Q t ls st σ := by
  rw [E_of hd rfl]
  show XR l d Q pc ls σ _ (swt dflt lo hi offs pc ls (.int x :: st) σ) = _
  unfold swt
  simp only [hx]
  rw [if_pos (by omega), show tg pc off = t by unfold tg; omega]
  rfl
end RUL
end
