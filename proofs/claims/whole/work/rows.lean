section
-- ===== PART A: goes FIRST, ahead of the names: the tables' words, and 'selects' of the private methods out of them =====
/-- a private method of a class that the tables say can be made, by its rows of tables_1 -/
def lw_okq (q : MethodName × Nat) : Prop := (q.1.cls ≠ "java/lang/invoke/MethodHandle" ∧ q.1.cls ≠ "java/lang/invoke/VarHandle") ∧ Cond.instantiable q.1.cls q.2 ∈ tables_1 ∧ Cond.privateMethod q.1 ∈ tables_1 ∧ Cond.instanceMethod q.1 ∈ tables_1
theorem lw_p0 : lw_okq (⟨"UpperFloors$Reader", "next", "()V"⟩, 7) := ⟨⟨by decide +kernel, by decide +kernel⟩, List.mem_of_getElem? (i := 112) (by decide +kernel), List.mem_of_getElem? (i := 259) (by decide +kernel), List.mem_of_getElem? (i := 260) (by decide +kernel)⟩
theorem lw_p1 : lw_okq (⟨"UpperFloors$Reader", "word", "()V"⟩, 7) := ⟨⟨by decide +kernel, by decide +kernel⟩, List.mem_of_getElem? (i := 112) (by decide +kernel), List.mem_of_getElem? (i := 269) (by decide +kernel), List.mem_of_getElem? (i := 270) (by decide +kernel)⟩
theorem lw_p2 : lw_okq (⟨"UpperFloors$Reader", "isWord", "(Ljava/lang/String;)Z"⟩, 7) := ⟨⟨by decide +kernel, by decide +kernel⟩, List.mem_of_getElem? (i := 112) (by decide +kernel), List.mem_of_getElem? (i := 274) (by decide +kernel), List.mem_of_getElem? (i := 275) (by decide +kernel)⟩
theorem lw_p3 : lw_okq (⟨"UpperFloors$Reader", "nameRead", "()I"⟩, 7) := ⟨⟨by decide +kernel, by decide +kernel⟩, List.mem_of_getElem? (i := 112) (by decide +kernel), List.mem_of_getElem? (i := 285) (by decide +kernel), List.mem_of_getElem? (i := 286) (by decide +kernel)⟩
theorem lw_p4 : lw_okq (⟨"UpperFloors$Reader", "number", "()V"⟩, 7) := ⟨⟨by decide +kernel, by decide +kernel⟩, List.mem_of_getElem? (i := 112) (by decide +kernel), List.mem_of_getElem? (i := 298) (by decide +kernel), List.mem_of_getElem? (i := 299) (by decide +kernel)⟩
theorem lw_p5 : lw_okq (⟨"UpperFloors$Reader", "sign", "()V"⟩, 7) := ⟨⟨by decide +kernel, by decide +kernel⟩, List.mem_of_getElem? (i := 112) (by decide +kernel), List.mem_of_getElem? (i := 302) (by decide +kernel), List.mem_of_getElem? (i := 303) (by decide +kernel)⟩
theorem lw_p6 : lw_okq (⟨"UpperFloors$Reader", "take", "(I)Z"⟩, 7) := ⟨⟨by decide +kernel, by decide +kernel⟩, List.mem_of_getElem? (i := 112) (by decide +kernel), List.mem_of_getElem? (i := 306) (by decide +kernel), List.mem_of_getElem? (i := 307) (by decide +kernel)⟩
theorem lw_p7 : lw_okq (⟨"UpperFloors$Reader", "either", "(I)Z"⟩, 7) := ⟨⟨by decide +kernel, by decide +kernel⟩, List.mem_of_getElem? (i := 112) (by decide +kernel), List.mem_of_getElem? (i := 310) (by decide +kernel), List.mem_of_getElem? (i := 311) (by decide +kernel)⟩
theorem lw_p8 : lw_okq (⟨"UpperFloors$Reader", "both", "(I)Z"⟩, 7) := ⟨⟨by decide +kernel, by decide +kernel⟩, List.mem_of_getElem? (i := 112) (by decide +kernel), List.mem_of_getElem? (i := 314) (by decide +kernel), List.mem_of_getElem? (i := 315) (by decide +kernel)⟩
theorem lw_p9 : lw_okq (⟨"UpperFloors$Reader", "unless", "(I)Z"⟩, 7) := ⟨⟨by decide +kernel, by decide +kernel⟩, List.mem_of_getElem? (i := 112) (by decide +kernel), List.mem_of_getElem? (i := 318) (by decide +kernel), List.mem_of_getElem? (i := 319) (by decide +kernel)⟩
theorem lw_p10 : lw_okq (⟨"UpperFloors$Reader", "compared", "(I)Z"⟩, 7) := ⟨⟨by decide +kernel, by decide +kernel⟩, List.mem_of_getElem? (i := 112) (by decide +kernel), List.mem_of_getElem? (i := 322) (by decide +kernel), List.mem_of_getElem? (i := 323) (by decide +kernel)⟩
theorem lw_p11 : lw_okq (⟨"UpperFloors$Reader", "sum", "(I)Z"⟩, 7) := ⟨⟨by decide +kernel, by decide +kernel⟩, List.mem_of_getElem? (i := 112) (by decide +kernel), List.mem_of_getElem? (i := 326) (by decide +kernel), List.mem_of_getElem? (i := 327) (by decide +kernel)⟩
theorem lw_p12 : lw_okq (⟨"UpperFloors$Reader", "term", "(I)Z"⟩, 7) := ⟨⟨by decide +kernel, by decide +kernel⟩, List.mem_of_getElem? (i := 112) (by decide +kernel), List.mem_of_getElem? (i := 330) (by decide +kernel), List.mem_of_getElem? (i := 331) (by decide +kernel)⟩
theorem lw_p13 : lw_okq (⟨"UpperFloors$Reader", "one", "(I)Z"⟩, 7) := ⟨⟨by decide +kernel, by decide +kernel⟩, List.mem_of_getElem? (i := 112) (by decide +kernel), List.mem_of_getElem? (i := 334) (by decide +kernel), List.mem_of_getElem? (i := 335) (by decide +kernel)⟩
theorem lw_p14 : lw_okq (⟨"UpperFloors", "put", "(I)V"⟩, 11) := ⟨⟨by decide +kernel, by decide +kernel⟩, List.mem_of_getElem? (i := 22) (by decide +kernel), List.mem_of_getElem? (i := 406) (by decide +kernel), List.mem_of_getElem? (i := 407) (by decide +kernel)⟩
theorem lw_p15 : lw_okq (⟨"UpperFloors", "isHouse", "(I)Z"⟩, 11) := ⟨⟨by decide +kernel, by decide +kernel⟩, List.mem_of_getElem? (i := 22) (by decide +kernel), List.mem_of_getElem? (i := 422) (by decide +kernel), List.mem_of_getElem? (i := 423) (by decide +kernel)⟩
def lw_privs_1 : List (MethodName × Nat) := [(⟨"UpperFloors$Reader", "next", "()V"⟩, 7), (⟨"UpperFloors$Reader", "word", "()V"⟩, 7), (⟨"UpperFloors$Reader", "isWord", "(Ljava/lang/String;)Z"⟩, 7), (⟨"UpperFloors$Reader", "nameRead", "()I"⟩, 7), (⟨"UpperFloors$Reader", "number", "()V"⟩, 7), (⟨"UpperFloors$Reader", "sign", "()V"⟩, 7), (⟨"UpperFloors$Reader", "take", "(I)Z"⟩, 7), (⟨"UpperFloors$Reader", "either", "(I)Z"⟩, 7), (⟨"UpperFloors$Reader", "both", "(I)Z"⟩, 7), (⟨"UpperFloors$Reader", "unless", "(I)Z"⟩, 7), (⟨"UpperFloors$Reader", "compared", "(I)Z"⟩, 7), (⟨"UpperFloors$Reader", "sum", "(I)Z"⟩, 7), (⟨"UpperFloors$Reader", "term", "(I)Z"⟩, 7), (⟨"UpperFloors$Reader", "one", "(I)Z"⟩, 7), (⟨"UpperFloors", "put", "(I)V"⟩, 11), (⟨"UpperFloors", "isHouse", "(I)Z"⟩, 11)]
theorem lw_r1 : ∀ q ∈ lw_privs_1, lw_okq q := List.forall_mem_cons.mpr ⟨lw_p0, List.forall_mem_cons.mpr ⟨lw_p1, List.forall_mem_cons.mpr ⟨lw_p2, List.forall_mem_cons.mpr ⟨lw_p3, List.forall_mem_cons.mpr ⟨lw_p4, List.forall_mem_cons.mpr ⟨lw_p5, List.forall_mem_cons.mpr ⟨lw_p6, List.forall_mem_cons.mpr ⟨lw_p7, List.forall_mem_cons.mpr ⟨lw_p8, List.forall_mem_cons.mpr ⟨lw_p9, List.forall_mem_cons.mpr ⟨lw_p10, List.forall_mem_cons.mpr ⟨lw_p11, List.forall_mem_cons.mpr ⟨lw_p12, List.forall_mem_cons.mpr ⟨lw_p13, List.forall_mem_cons.mpr ⟨lw_p14, List.forall_mem_cons.mpr ⟨lw_p15, fun _ h => absurd h List.not_mem_nil⟩⟩⟩⟩⟩⟩⟩⟩⟩⟩⟩⟩⟩⟩⟩⟩
theorem lw_p16 : lw_okq (⟨"UpperFloors", "ready", "()V"⟩, 11) := ⟨⟨by decide +kernel, by decide +kernel⟩, List.mem_of_getElem? (i := 22) (by decide +kernel), List.mem_of_getElem? (i := 426) (by decide +kernel), List.mem_of_getElem? (i := 427) (by decide +kernel)⟩
theorem lw_p17 : lw_okq (⟨"UpperFloors", "settle", "(III)I"⟩, 11) := ⟨⟨by decide +kernel, by decide +kernel⟩, List.mem_of_getElem? (i := 22) (by decide +kernel), List.mem_of_getElem? (i := 464) (by decide +kernel), List.mem_of_getElem? (i := 465) (by decide +kernel)⟩
theorem lw_p18 : lw_okq (⟨"UpperFloors$Dusk", "alone", "(II)V"⟩, 9) := ⟨⟨by decide +kernel, by decide +kernel⟩, List.mem_of_getElem? (i := 70) (by decide +kernel), List.mem_of_getElem? (i := 561) (by decide +kernel), List.mem_of_getElem? (i := 562) (by decide +kernel)⟩
theorem lw_p19 : lw_okq (⟨"UpperFloors$Dusk", "holds", "(II)I"⟩, 9) := ⟨⟨by decide +kernel, by decide +kernel⟩, List.mem_of_getElem? (i := 70) (by decide +kernel), List.mem_of_getElem? (i := 603) (by decide +kernel), List.mem_of_getElem? (i := 604) (by decide +kernel)⟩
theorem lw_p20 : lw_okq (⟨"UpperFloors$Dusk", "sink", "(II)V"⟩, 9) := ⟨⟨by decide +kernel, by decide +kernel⟩, List.mem_of_getElem? (i := 70) (by decide +kernel), List.mem_of_getElem? (i := 620) (by decide +kernel), List.mem_of_getElem? (i := 621) (by decide +kernel)⟩
theorem lw_p21 : lw_okq (⟨"UpperFloors$Dusk", "pair", "(IIZ)V"⟩, 9) := ⟨⟨by decide +kernel, by decide +kernel⟩, List.mem_of_getElem? (i := 70) (by decide +kernel), List.mem_of_getElem? (i := 625) (by decide +kernel), List.mem_of_getElem? (i := 626) (by decide +kernel)⟩
theorem lw_p22 : lw_okq (⟨"UpperFloors$Dusk", "rise", "(I)V"⟩, 9) := ⟨⟨by decide +kernel, by decide +kernel⟩, List.mem_of_getElem? (i := 70) (by decide +kernel), List.mem_of_getElem? (i := 632) (by decide +kernel), List.mem_of_getElem? (i := 633) (by decide +kernel)⟩
theorem lw_p23 : lw_okq (⟨"UpperFloors", "tellingRefusal", "(I)I"⟩, 11) := ⟨⟨by decide +kernel, by decide +kernel⟩, List.mem_of_getElem? (i := 22) (by decide +kernel), List.mem_of_getElem? (i := 725) (by decide +kernel), List.mem_of_getElem? (i := 726) (by decide +kernel)⟩
theorem lw_p24 : lw_okq (⟨"UpperFloors", "drawnDown", "(III)I"⟩, 11) := ⟨⟨by decide +kernel, by decide +kernel⟩, List.mem_of_getElem? (i := 22) (by decide +kernel), List.mem_of_getElem? (i := 773) (by decide +kernel), List.mem_of_getElem? (i := 774) (by decide +kernel)⟩
theorem lw_p25 : lw_okq (⟨"UpperFloorsModel", "next", "()V"⟩, 40) := ⟨⟨by decide +kernel, by decide +kernel⟩, List.mem_of_getElem? (i := 831) (by decide +kernel), List.mem_of_getElem? (i := 841) (by decide +kernel), List.mem_of_getElem? (i := 842) (by decide +kernel)⟩
theorem lw_p26 : lw_okq (⟨"UpperFloorsModel", "wordFrom", "(II)I"⟩, 40) := ⟨⟨by decide +kernel, by decide +kernel⟩, List.mem_of_getElem? (i := 831) (by decide +kernel), List.mem_of_getElem? (i := 848) (by decide +kernel), List.mem_of_getElem? (i := 849) (by decide +kernel)⟩
theorem lw_p27 : lw_okq (⟨"UpperFloorsModel", "eRead", "()Z"⟩, 40) := ⟨⟨by decide +kernel, by decide +kernel⟩, List.mem_of_getElem? (i := 831) (by decide +kernel), List.mem_of_getElem? (i := 852) (by decide +kernel), List.mem_of_getElem? (i := 853) (by decide +kernel)⟩
theorem lw_p28 : lw_okq (⟨"UpperFloorsModel", "puts", "(I)V"⟩, 40) := ⟨⟨by decide +kernel, by decide +kernel⟩, List.mem_of_getElem? (i := 831) (by decide +kernel), List.mem_of_getElem? (i := 857) (by decide +kernel), List.mem_of_getElem? (i := 858) (by decide +kernel)⟩
theorem lw_p29 : lw_okq (⟨"UpperFloorsModel", "unwinds", "(I)V"⟩, 40) := ⟨⟨by decide +kernel, by decide +kernel⟩, List.mem_of_getElem? (i := 831) (by decide +kernel), List.mem_of_getElem? (i := 861) (by decide +kernel), List.mem_of_getElem? (i := 862) (by decide +kernel)⟩
theorem lw_p30 : lw_okq (⟨"UpperFloorsModel", "opensOne", "(I)Z"⟩, 40) := ⟨⟨by decide +kernel, by decide +kernel⟩, List.mem_of_getElem? (i := 831) (by decide +kernel), List.mem_of_getElem? (i := 868) (by decide +kernel), List.mem_of_getElem? (i := 869) (by decide +kernel)⟩
theorem lw_p31 : lw_okq (⟨"UpperFloorsModel", "holds", "(I)V"⟩, 40) := ⟨⟨by decide +kernel, by decide +kernel⟩, List.mem_of_getElem? (i := 831) (by decide +kernel), List.mem_of_getElem? (i := 872) (by decide +kernel), List.mem_of_getElem? (i := 873) (by decide +kernel)⟩
def lw_privs_2 : List (MethodName × Nat) := [(⟨"UpperFloors", "ready", "()V"⟩, 11), (⟨"UpperFloors", "settle", "(III)I"⟩, 11), (⟨"UpperFloors$Dusk", "alone", "(II)V"⟩, 9), (⟨"UpperFloors$Dusk", "holds", "(II)I"⟩, 9), (⟨"UpperFloors$Dusk", "sink", "(II)V"⟩, 9), (⟨"UpperFloors$Dusk", "pair", "(IIZ)V"⟩, 9), (⟨"UpperFloors$Dusk", "rise", "(I)V"⟩, 9), (⟨"UpperFloors", "tellingRefusal", "(I)I"⟩, 11), (⟨"UpperFloors", "drawnDown", "(III)I"⟩, 11), (⟨"UpperFloorsModel", "next", "()V"⟩, 40), (⟨"UpperFloorsModel", "wordFrom", "(II)I"⟩, 40), (⟨"UpperFloorsModel", "eRead", "()Z"⟩, 40), (⟨"UpperFloorsModel", "puts", "(I)V"⟩, 40), (⟨"UpperFloorsModel", "unwinds", "(I)V"⟩, 40), (⟨"UpperFloorsModel", "opensOne", "(I)Z"⟩, 40), (⟨"UpperFloorsModel", "holds", "(I)V"⟩, 40)]
theorem lw_r2 : ∀ q ∈ lw_privs_2, lw_okq q := List.forall_mem_cons.mpr ⟨lw_p16, List.forall_mem_cons.mpr ⟨lw_p17, List.forall_mem_cons.mpr ⟨lw_p18, List.forall_mem_cons.mpr ⟨lw_p19, List.forall_mem_cons.mpr ⟨lw_p20, List.forall_mem_cons.mpr ⟨lw_p21, List.forall_mem_cons.mpr ⟨lw_p22, List.forall_mem_cons.mpr ⟨lw_p23, List.forall_mem_cons.mpr ⟨lw_p24, List.forall_mem_cons.mpr ⟨lw_p25, List.forall_mem_cons.mpr ⟨lw_p26, List.forall_mem_cons.mpr ⟨lw_p27, List.forall_mem_cons.mpr ⟨lw_p28, List.forall_mem_cons.mpr ⟨lw_p29, List.forall_mem_cons.mpr ⟨lw_p30, List.forall_mem_cons.mpr ⟨lw_p31, fun _ h => absurd h List.not_mem_nil⟩⟩⟩⟩⟩⟩⟩⟩⟩⟩⟩⟩⟩⟩⟩⟩
theorem lw_p32 : lw_okq (⟨"UpperFloorsModel", "signOf", "()I"⟩, 40) := ⟨⟨by decide +kernel, by decide +kernel⟩, List.mem_of_getElem? (i := 831) (by decide +kernel), List.mem_of_getElem? (i := 876) (by decide +kernel), List.mem_of_getElem? (i := 877) (by decide +kernel)⟩
theorem lw_p33 : lw_okq (⟨"UpperFloorsModel", "between", "(I)Z"⟩, 40) := ⟨⟨by decide +kernel, by decide +kernel⟩, List.mem_of_getElem? (i := 831) (by decide +kernel), List.mem_of_getElem? (i := 880) (by decide +kernel), List.mem_of_getElem? (i := 881) (by decide +kernel)⟩
theorem lw_p34 : lw_okq (⟨"UpperFloorsModel", "chains", "()I"⟩, 40) := ⟨⟨by decide +kernel, by decide +kernel⟩, List.mem_of_getElem? (i := 831) (by decide +kernel), List.mem_of_getElem? (i := 1009) (by decide +kernel), List.mem_of_getElem? (i := 1010) (by decide +kernel)⟩
theorem lw_p35 : lw_okq (⟨"UpperFloorsModel", "isLesser", "(I)Z"⟩, 40) := ⟨⟨by decide +kernel, by decide +kernel⟩, List.mem_of_getElem? (i := 831) (by decide +kernel), List.mem_of_getElem? (i := 1013) (by decide +kernel), List.mem_of_getElem? (i := 1014) (by decide +kernel)⟩
theorem lw_p36 : lw_okq (⟨"UpperFloorsModel", "peopleAll", "()I"⟩, 40) := ⟨⟨by decide +kernel, by decide +kernel⟩, List.mem_of_getElem? (i := 831) (by decide +kernel), List.mem_of_getElem? (i := 1017) (by decide +kernel), List.mem_of_getElem? (i := 1018) (by decide +kernel)⟩
theorem lw_p37 : lw_okq (⟨"UpperFloorsModel", "isHouse", "(I)Z"⟩, 40) := ⟨⟨by decide +kernel, by decide +kernel⟩, List.mem_of_getElem? (i := 831) (by decide +kernel), List.mem_of_getElem? (i := 1037) (by decide +kernel), List.mem_of_getElem? (i := 1038) (by decide +kernel)⟩
theorem lw_p38 : lw_okq (⟨"UpperFloorsModel", "asksOf", "(IIIII)I"⟩, 40) := ⟨⟨by decide +kernel, by decide +kernel⟩, List.mem_of_getElem? (i := 831) (by decide +kernel), List.mem_of_getElem? (i := 1044) (by decide +kernel), List.mem_of_getElem? (i := 1045) (by decide +kernel)⟩
theorem lw_p39 : lw_okq (⟨"UpperFloorsModel", "says", "(I)I"⟩, 40) := ⟨⟨by decide +kernel, by decide +kernel⟩, List.mem_of_getElem? (i := 831) (by decide +kernel), List.mem_of_getElem? (i := 1048) (by decide +kernel), List.mem_of_getElem? (i := 1049) (by decide +kernel)⟩
theorem lw_p40 : lw_okq (⟨"UpperFloorsModel", "links", "(II)V"⟩, 40) := ⟨⟨by decide +kernel, by decide +kernel⟩, List.mem_of_getElem? (i := 831) (by decide +kernel), List.mem_of_getElem? (i := 1070) (by decide +kernel), List.mem_of_getElem? (i := 1071) (by decide +kernel)⟩
theorem lw_p41 : lw_okq (⟨"UpperFloorsModel", "comesFree", "(I)V"⟩, 40) := ⟨⟨by decide +kernel, by decide +kernel⟩, List.mem_of_getElem? (i := 831) (by decide +kernel), List.mem_of_getElem? (i := 1074) (by decide +kernel), List.mem_of_getElem? (i := 1075) (by decide +kernel)⟩
theorem lw_p42 : lw_okq (⟨"UpperFloorsModel", "lives", "(I)V"⟩, 40) := ⟨⟨by decide +kernel, by decide +kernel⟩, List.mem_of_getElem? (i := 831) (by decide +kernel), List.mem_of_getElem? (i := 1086) (by decide +kernel), List.mem_of_getElem? (i := 1087) (by decide +kernel)⟩
theorem lw_p43 : lw_okq (⟨"UpperFloorsModel", "livesBy", "(I)V"⟩, 40) := ⟨⟨by decide +kernel, by decide +kernel⟩, List.mem_of_getElem? (i := 831) (by decide +kernel), List.mem_of_getElem? (i := 1090) (by decide +kernel), List.mem_of_getElem? (i := 1091) (by decide +kernel)⟩
theorem lw_p44 : lw_okq (⟨"UpperFloorsModel", "minute", "(I)V"⟩, 40) := ⟨⟨by decide +kernel, by decide +kernel⟩, List.mem_of_getElem? (i := 831) (by decide +kernel), List.mem_of_getElem? (i := 1094) (by decide +kernel), List.mem_of_getElem? (i := 1095) (by decide +kernel)⟩
theorem lw_p45 : lw_okq (⟨"UpperFloorsModel", "alone", "(II)V"⟩, 40) := ⟨⟨by decide +kernel, by decide +kernel⟩, List.mem_of_getElem? (i := 831) (by decide +kernel), List.mem_of_getElem? (i := 1098) (by decide +kernel), List.mem_of_getElem? (i := 1099) (by decide +kernel)⟩
theorem lw_p46 : lw_okq (⟨"UpperFloorsModel", "isFree", "(II)Z"⟩, 40) := ⟨⟨by decide +kernel, by decide +kernel⟩, List.mem_of_getElem? (i := 831) (by decide +kernel), List.mem_of_getElem? (i := 1102) (by decide +kernel), List.mem_of_getElem? (i := 1103) (by decide +kernel)⟩
theorem lw_p47 : lw_okq (⟨"UpperFloorsModel", "weighs", "(II)I"⟩, 40) := ⟨⟨by decide +kernel, by decide +kernel⟩, List.mem_of_getElem? (i := 831) (by decide +kernel), List.mem_of_getElem? (i := 1106) (by decide +kernel), List.mem_of_getElem? (i := 1107) (by decide +kernel)⟩
def lw_privs_3 : List (MethodName × Nat) := [(⟨"UpperFloorsModel", "signOf", "()I"⟩, 40), (⟨"UpperFloorsModel", "between", "(I)Z"⟩, 40), (⟨"UpperFloorsModel", "chains", "()I"⟩, 40), (⟨"UpperFloorsModel", "isLesser", "(I)Z"⟩, 40), (⟨"UpperFloorsModel", "peopleAll", "()I"⟩, 40), (⟨"UpperFloorsModel", "isHouse", "(I)Z"⟩, 40), (⟨"UpperFloorsModel", "asksOf", "(IIIII)I"⟩, 40), (⟨"UpperFloorsModel", "says", "(I)I"⟩, 40), (⟨"UpperFloorsModel", "links", "(II)V"⟩, 40), (⟨"UpperFloorsModel", "comesFree", "(I)V"⟩, 40), (⟨"UpperFloorsModel", "lives", "(I)V"⟩, 40), (⟨"UpperFloorsModel", "livesBy", "(I)V"⟩, 40), (⟨"UpperFloorsModel", "minute", "(I)V"⟩, 40), (⟨"UpperFloorsModel", "alone", "(II)V"⟩, 40), (⟨"UpperFloorsModel", "isFree", "(II)Z"⟩, 40), (⟨"UpperFloorsModel", "weighs", "(II)I"⟩, 40)]
theorem lw_r3 : ∀ q ∈ lw_privs_3, lw_okq q := List.forall_mem_cons.mpr ⟨lw_p32, List.forall_mem_cons.mpr ⟨lw_p33, List.forall_mem_cons.mpr ⟨lw_p34, List.forall_mem_cons.mpr ⟨lw_p35, List.forall_mem_cons.mpr ⟨lw_p36, List.forall_mem_cons.mpr ⟨lw_p37, List.forall_mem_cons.mpr ⟨lw_p38, List.forall_mem_cons.mpr ⟨lw_p39, List.forall_mem_cons.mpr ⟨lw_p40, List.forall_mem_cons.mpr ⟨lw_p41, List.forall_mem_cons.mpr ⟨lw_p42, List.forall_mem_cons.mpr ⟨lw_p43, List.forall_mem_cons.mpr ⟨lw_p44, List.forall_mem_cons.mpr ⟨lw_p45, List.forall_mem_cons.mpr ⟨lw_p46, List.forall_mem_cons.mpr ⟨lw_p47, fun _ h => absurd h List.not_mem_nil⟩⟩⟩⟩⟩⟩⟩⟩⟩⟩⟩⟩⟩⟩⟩⟩
theorem lw_p48 : lw_okq (⟨"UpperFloorsModel", "holdsIt", "(II)I"⟩, 40) := ⟨⟨by decide +kernel, by decide +kernel⟩, List.mem_of_getElem? (i := 831) (by decide +kernel), List.mem_of_getElem? (i := 1110) (by decide +kernel), List.mem_of_getElem? (i := 1111) (by decide +kernel)⟩
theorem lw_p49 : lw_okq (⟨"UpperFloorsModel", "goesDown", "(II)V"⟩, 40) := ⟨⟨by decide +kernel, by decide +kernel⟩, List.mem_of_getElem? (i := 831) (by decide +kernel), List.mem_of_getElem? (i := 1114) (by decide +kernel), List.mem_of_getElem? (i := 1115) (by decide +kernel)⟩
theorem lw_p50 : lw_okq (⟨"UpperFloorsModel", "catches", "()Z"⟩, 40) := ⟨⟨by decide +kernel, by decide +kernel⟩, List.mem_of_getElem? (i := 831) (by decide +kernel), List.mem_of_getElem? (i := 1118) (by decide +kernel), List.mem_of_getElem? (i := 1119) (by decide +kernel)⟩
theorem lw_p51 : lw_okq (⟨"UpperFloorsModel", "chained", "(IIIZ)V"⟩, 40) := ⟨⟨by decide +kernel, by decide +kernel⟩, List.mem_of_getElem? (i := 831) (by decide +kernel), List.mem_of_getElem? (i := 1125) (by decide +kernel), List.mem_of_getElem? (i := 1126) (by decide +kernel)⟩
theorem lw_p52 : lw_okq (⟨"UpperFloorsModel", "sumOf", "(I)I"⟩, 40) := ⟨⟨by decide +kernel, by decide +kernel⟩, List.mem_of_getElem? (i := 831) (by decide +kernel), List.mem_of_getElem? (i := 1133) (by decide +kernel), List.mem_of_getElem? (i := 1134) (by decide +kernel)⟩
theorem lw_p53 : lw_okq (⟨"UpperFloorsModel", "whenOf", "(I)I"⟩, 40) := ⟨⟨by decide +kernel, by decide +kernel⟩, List.mem_of_getElem? (i := 831) (by decide +kernel), List.mem_of_getElem? (i := 1141) (by decide +kernel), List.mem_of_getElem? (i := 1142) (by decide +kernel)⟩
theorem lw_p54 : lw_okq (⟨"UpperFloorsModel", "downs", "(I)I"⟩, 40) := ⟨⟨by decide +kernel, by decide +kernel⟩, List.mem_of_getElem? (i := 831) (by decide +kernel), List.mem_of_getElem? (i := 1157) (by decide +kernel), List.mem_of_getElem? (i := 1158) (by decide +kernel)⟩
theorem lw_p55 : lw_okq (⟨"UpperFloorsModel", "downNow", "()I"⟩, 40) := ⟨⟨by decide +kernel, by decide +kernel⟩, List.mem_of_getElem? (i := 831) (by decide +kernel), List.mem_of_getElem? (i := 1161) (by decide +kernel), List.mem_of_getElem? (i := 1162) (by decide +kernel)⟩
theorem lw_p56 : lw_okq (⟨"UpperFloorsModel", "keeps", "()V"⟩, 40) := ⟨⟨by decide +kernel, by decide +kernel⟩, List.mem_of_getElem? (i := 831) (by decide +kernel), List.mem_of_getElem? (i := 1173) (by decide +kernel), List.mem_of_getElem? (i := 1174) (by decide +kernel)⟩
theorem lw_p57 : lw_okq (⟨"UpperFloorsModel", "laysBack", "()V"⟩, 40) := ⟨⟨by decide +kernel, by decide +kernel⟩, List.mem_of_getElem? (i := 831) (by decide +kernel), List.mem_of_getElem? (i := 1177) (by decide +kernel), List.mem_of_getElem? (i := 1178) (by decide +kernel)⟩
theorem lw_p58 : lw_okq (⟨"UpperFloorsModel", "toldWrong", "(II)I"⟩, 40) := ⟨⟨by decide +kernel, by decide +kernel⟩, List.mem_of_getElem? (i := 831) (by decide +kernel), List.mem_of_getElem? (i := 1201) (by decide +kernel), List.mem_of_getElem? (i := 1202) (by decide +kernel)⟩
theorem lw_p59 : lw_okq (⟨"UpperFloorsModel", "sheetWrong", "(I)I"⟩, 40) := ⟨⟨by decide +kernel, by decide +kernel⟩, List.mem_of_getElem? (i := 831) (by decide +kernel), List.mem_of_getElem? (i := 1205) (by decide +kernel), List.mem_of_getElem? (i := 1206) (by decide +kernel)⟩
theorem lw_p60 : lw_okq (⟨"UpperFloorsModel", "unlike", "(II)I"⟩, 40) := ⟨⟨by decide +kernel, by decide +kernel⟩, List.mem_of_getElem? (i := 831) (by decide +kernel), List.mem_of_getElem? (i := 1209) (by decide +kernel), List.mem_of_getElem? (i := 1210) (by decide +kernel)⟩
theorem lw_p61 : lw_okq (⟨"UpperFloorsModel", "downsBy", "(III)I"⟩, 40) := ⟨⟨by decide +kernel, by decide +kernel⟩, List.mem_of_getElem? (i := 831) (by decide +kernel), List.mem_of_getElem? (i := 1237) (by decide +kernel), List.mem_of_getElem? (i := 1238) (by decide +kernel)⟩
def lw_privs_4 : List (MethodName × Nat) := [(⟨"UpperFloorsModel", "holdsIt", "(II)I"⟩, 40), (⟨"UpperFloorsModel", "goesDown", "(II)V"⟩, 40), (⟨"UpperFloorsModel", "catches", "()Z"⟩, 40), (⟨"UpperFloorsModel", "chained", "(IIIZ)V"⟩, 40), (⟨"UpperFloorsModel", "sumOf", "(I)I"⟩, 40), (⟨"UpperFloorsModel", "whenOf", "(I)I"⟩, 40), (⟨"UpperFloorsModel", "downs", "(I)I"⟩, 40), (⟨"UpperFloorsModel", "downNow", "()I"⟩, 40), (⟨"UpperFloorsModel", "keeps", "()V"⟩, 40), (⟨"UpperFloorsModel", "laysBack", "()V"⟩, 40), (⟨"UpperFloorsModel", "toldWrong", "(II)I"⟩, 40), (⟨"UpperFloorsModel", "sheetWrong", "(I)I"⟩, 40), (⟨"UpperFloorsModel", "unlike", "(II)I"⟩, 40), (⟨"UpperFloorsModel", "downsBy", "(III)I"⟩, 40)]
theorem lw_r4 : ∀ q ∈ lw_privs_4, lw_okq q := List.forall_mem_cons.mpr ⟨lw_p48, List.forall_mem_cons.mpr ⟨lw_p49, List.forall_mem_cons.mpr ⟨lw_p50, List.forall_mem_cons.mpr ⟨lw_p51, List.forall_mem_cons.mpr ⟨lw_p52, List.forall_mem_cons.mpr ⟨lw_p53, List.forall_mem_cons.mpr ⟨lw_p54, List.forall_mem_cons.mpr ⟨lw_p55, List.forall_mem_cons.mpr ⟨lw_p56, List.forall_mem_cons.mpr ⟨lw_p57, List.forall_mem_cons.mpr ⟨lw_p58, List.forall_mem_cons.mpr ⟨lw_p59, List.forall_mem_cons.mpr ⟨lw_p60, List.forall_mem_cons.mpr ⟨lw_p61, fun _ h => absurd h List.not_mem_nil⟩⟩⟩⟩⟩⟩⟩⟩⟩⟩⟩⟩⟩⟩
def lw_privs : List (MethodName × Nat) := lw_privs_1 ++ (lw_privs_2 ++ (lw_privs_3 ++ (lw_privs_4)))
def lw_tbl : List Cond := k2_sels lw_privs ++ tables_1
theorem lw_privs_ok : ∀ q ∈ lw_privs, lw_okq q := by
  show ∀ q ∈ lw_privs_1 ++ (lw_privs_2 ++ (lw_privs_3 ++ (lw_privs_4))), lw_okq q
  exact List.forall_mem_append.mpr ⟨lw_r1, List.forall_mem_append.mpr ⟨lw_r2, List.forall_mem_append.mpr ⟨lw_r3, lw_r4⟩⟩⟩
-- ===== end of PART A; then your names; then what follows =====
end
section
def R_Aunt : String := "UpperFloors$Aunt"
def F_Aunt : u_T := fun k => match k with
  | 0 => ("UpperFloors$House", "kind", "I", true)
  | 1 => ("UpperFloors$House", "told", "I", true)
  | _ => ("UpperFloors$House", "more", "I", true)
def t_Aunt : Nat → FieldType := fun k => match k with
  | 0 => .int
  | 1 => .int
  | _ => .int
theorem n_Aunt : ∀ a, a < 3 → ∀ b, b < 3 → a ≠ b → (F_Aunt a).2.1 ≠ (F_Aunt b).2.1 := by decide +kernel
theorem t_Aunt_ok : ∀ k, k < 3 → parseFieldDescriptor (F_Aunt k).2.2.1 = some (t_Aunt k) := by decide +kernel
def R_Braked : String := "UpperFloors$Braked"
def F_Braked : u_T := fun k => match k with
  | 0 => ("UpperFloors$House", "kind", "I", true)
  | 1 => ("UpperFloors$House", "told", "I", true)
  | _ => ("UpperFloors$House", "more", "I", true)
def t_Braked : Nat → FieldType := fun k => match k with
  | 0 => .int
  | 1 => .int
  | _ => .int
theorem n_Braked : ∀ a, a < 3 → ∀ b, b < 3 → a ≠ b → (F_Braked a).2.1 ≠ (F_Braked b).2.1 := by decide +kernel
theorem t_Braked_ok : ∀ k, k < 3 → parseFieldDescriptor (F_Braked k).2.2.1 = some (t_Braked k) := by decide +kernel
def R_Dusk : String := "UpperFloors$Dusk"
def F_Dusk : u_T := fun k => match k with
  | 0 => ("UpperFloors$Dusk", "town", "LUpperFloors$Town;", true)
  | 1 => ("UpperFloors$Dusk", "houses", "[LUpperFloors$House;", true)
  | 2 => ("UpperFloors$Dusk", "run", "[I", true)
  | 3 => ("UpperFloors$Dusk", "moves", "[I", true)
  | 4 => ("UpperFloors$Dusk", "hits", "[I", true)
  | 5 => ("UpperFloors$Dusk", "lastHit", "[I", true)
  | 6 => ("UpperFloors$Dusk", "names", "[I", true)
  | 7 => ("UpperFloors$Dusk", "stack", "[I", true)
  | _ => ("UpperFloors$Dusk", "law", "LUpperFloors$Law;", false)
def t_Dusk : Nat → FieldType := fun k => match k with
  | 0 => .object "UpperFloors$Town"
  | 1 => .array (.object "UpperFloors$House")
  | 2 => .array .int
  | 3 => .array .int
  | 4 => .array .int
  | 5 => .array .int
  | 6 => .array .int
  | 7 => .array .int
  | _ => .object "UpperFloors$Law"
theorem n_Dusk : ∀ a, a < 9 → ∀ b, b < 9 → a ≠ b → (F_Dusk a).2.1 ≠ (F_Dusk b).2.1 := by decide +kernel
theorem t_Dusk_ok : ∀ k, k < 9 → parseFieldDescriptor (F_Dusk k).2.2.1 = some (t_Dusk k) := by decide +kernel
def R_Heavy : String := "UpperFloors$Heavy"
def F_Heavy : u_T := fun k => match k with
  | 0 => ("UpperFloors$House", "kind", "I", true)
  | 1 => ("UpperFloors$House", "told", "I", true)
  | _ => ("UpperFloors$House", "more", "I", true)
def t_Heavy : Nat → FieldType := fun k => match k with
  | 0 => .int
  | 1 => .int
  | _ => .int
theorem n_Heavy : ∀ a, a < 3 → ∀ b, b < 3 → a ≠ b → (F_Heavy a).2.1 ≠ (F_Heavy b).2.1 := by decide +kernel
theorem t_Heavy_ok : ∀ k, k < 3 → parseFieldDescriptor (F_Heavy k).2.2.1 = some (t_Heavy k) := by decide +kernel
def R_House : String := "UpperFloors$House"
def F_House : u_T := fun k => match k with
  | 0 => ("UpperFloors$House", "kind", "I", true)
  | 1 => ("UpperFloors$House", "told", "I", true)
  | _ => ("UpperFloors$House", "more", "I", true)
def t_House : Nat → FieldType := fun k => match k with
  | 0 => .int
  | 1 => .int
  | _ => .int
theorem n_House : ∀ a, a < 3 → ∀ b, b < 3 → a ≠ b → (F_House a).2.1 ≠ (F_House b).2.1 := by decide +kernel
theorem t_House_ok : ∀ k, k < 3 → parseFieldDescriptor (F_House k).2.2.1 = some (t_House k) := by decide +kernel
def R_Late : String := "UpperFloors$Late"
def F_Late : u_T := fun k => match k with
  | 0 => ("UpperFloors$House", "kind", "I", true)
  | 1 => ("UpperFloors$House", "told", "I", true)
  | _ => ("UpperFloors$House", "more", "I", true)
def t_Late : Nat → FieldType := fun k => match k with
  | 0 => .int
  | 1 => .int
  | _ => .int
theorem n_Late : ∀ a, a < 3 → ∀ b, b < 3 → a ≠ b → (F_Late a).2.1 ≠ (F_Late b).2.1 := by decide +kernel
theorem t_Late_ok : ∀ k, k < 3 → parseFieldDescriptor (F_Late k).2.2.1 = some (t_Late k) := by decide +kernel
def R_Law : String := "UpperFloors$Law"
def F_Law : u_T := fun k => match k with
  | 0 => ("UpperFloors$Law", "steps", "[I", true)
  | 1 => ("UpperFloors$Law", "from", "[I", true)
  | _ => ("UpperFloors$Law", "size", "I", false)
def t_Law : Nat → FieldType := fun k => match k with
  | 0 => .array .int
  | 1 => .array .int
  | _ => .int
theorem n_Law : ∀ a, a < 3 → ∀ b, b < 3 → a ≠ b → (F_Law a).2.1 ≠ (F_Law b).2.1 := by decide +kernel
theorem t_Law_ok : ∀ k, k < 3 → parseFieldDescriptor (F_Law k).2.2.1 = some (t_Law k) := by decide +kernel
def R_Reader : String := "UpperFloors$Reader"
def F_Reader : u_T := fun k => match k with
  | 0 => ("UpperFloors$Reader", "tape", "[I", false)
  | 1 => ("UpperFloors$Reader", "tapeSize", "I", false)
  | 2 => ("UpperFloors$Reader", "law", "LUpperFloors$Law;", false)
  | 3 => ("UpperFloors$Reader", "at", "I", false)
  | 4 => ("UpperFloors$Reader", "start", "I", false)
  | 5 => ("UpperFloors$Reader", "token", "I", false)
  | _ => ("UpperFloors$Reader", "value", "I", false)
def t_Reader : Nat → FieldType := fun k => match k with
  | 0 => .array .int
  | 1 => .int
  | 2 => .object "UpperFloors$Law"
  | 3 => .int
  | 4 => .int
  | 5 => .int
  | _ => .int
theorem n_Reader : ∀ a, a < 7 → ∀ b, b < 7 → a ≠ b → (F_Reader a).2.1 ≠ (F_Reader b).2.1 := by decide +kernel
theorem t_Reader_ok : ∀ k, k < 7 → parseFieldDescriptor (F_Reader k).2.2.1 = some (t_Reader k) := by decide +kernel
def R_Sheet : String := "UpperFloors$Sheet"
def F_Sheet : u_T := fun k => match k with
  | 0 => ("UpperFloors$Sheet", "row", "[I", true)
  | 1 => ("UpperFloors$Sheet", "sort", "I", false)
  | _ => ("UpperFloors$Sheet", "size", "I", false)
def t_Sheet : Nat → FieldType := fun k => match k with
  | 0 => .array .int
  | 1 => .int
  | _ => .int
theorem n_Sheet : ∀ a, a < 3 → ∀ b, b < 3 → a ≠ b → (F_Sheet a).2.1 ≠ (F_Sheet b).2.1 := by decide +kernel
theorem t_Sheet_ok : ∀ k, k < 3 → parseFieldDescriptor (F_Sheet k).2.2.1 = some (t_Sheet k) := by decide +kernel
def R_Stuck : String := "UpperFloors$Stuck"
def F_Stuck : u_T := fun k => match k with
  | 0 => ("UpperFloors$House", "kind", "I", true)
  | 1 => ("UpperFloors$House", "told", "I", true)
  | _ => ("UpperFloors$House", "more", "I", true)
def t_Stuck : Nat → FieldType := fun k => match k with
  | 0 => .int
  | 1 => .int
  | _ => .int
theorem n_Stuck : ∀ a, a < 3 → ∀ b, b < 3 → a ≠ b → (F_Stuck a).2.1 ≠ (F_Stuck b).2.1 := by decide +kernel
theorem t_Stuck_ok : ∀ k, k < 3 → parseFieldDescriptor (F_Stuck k).2.2.1 = some (t_Stuck k) := by decide +kernel
def R_Town : String := "UpperFloors$Town"
def F_Town : u_T := fun k => match k with
  | 0 => ("UpperFloors$Town", "high", "[I", true)
  | 1 => ("UpperFloors$Town", "people", "[I", true)
  | 2 => ("UpperFloors$Town", "partner", "[I", true)
  | 3 => ("UpperFloors$Town", "size", "I", false)
  | _ => ("UpperFloors$Town", "law", "I", false)
def t_Town : Nat → FieldType := fun k => match k with
  | 0 => .array .int
  | 1 => .array .int
  | 2 => .array .int
  | 3 => .int
  | _ => .int
theorem n_Town : ∀ a, a < 5 → ∀ b, b < 5 → a ≠ b → (F_Town a).2.1 ≠ (F_Town b).2.1 := by decide +kernel
theorem t_Town_ok : ∀ k, k < 5 → parseFieldDescriptor (F_Town k).2.2.1 = some (t_Town k) := by decide +kernel
def R_UF : String := "UpperFloors"
def F_UF : u_T := fun k => match k with
  | 0 => ("UpperFloors", "houses", "[LUpperFloors$House;", true)
  | 1 => ("UpperFloors", "texts", "[LUpperFloors$Law;", true)
  | 2 => ("UpperFloors", "sheets", "[LUpperFloors$Sheet;", true)
  | 3 => ("UpperFloors", "tape", "[I", true)
  | 4 => ("UpperFloors", "now", "LUpperFloors$Town;", true)
  | 5 => ("UpperFloors", "kept", "LUpperFloors$Town;", true)
  | 6 => ("UpperFloors", "dusk", "LUpperFloors$Dusk;", true)
  | 7 => ("UpperFloors", "reader", "LUpperFloors$Reader;", true)
  | 8 => ("UpperFloors", "textCount", "I", false)
  | 9 => ("UpperFloors", "tapeSize", "I", false)
  | _ => ("UpperFloors", "keeps", "Z", false)
def t_UF : Nat → FieldType := fun k => match k with
  | 0 => .array (.object "UpperFloors$House")
  | 1 => .array (.object "UpperFloors$Law")
  | 2 => .array (.object "UpperFloors$Sheet")
  | 3 => .array .int
  | 4 => .object "UpperFloors$Town"
  | 5 => .object "UpperFloors$Town"
  | 6 => .object "UpperFloors$Dusk"
  | 7 => .object "UpperFloors$Reader"
  | 8 => .int
  | 9 => .int
  | _ => .boolean
theorem n_UF : ∀ a, a < 11 → ∀ b, b < 11 → a ≠ b → (F_UF a).2.1 ≠ (F_UF b).2.1 := by decide +kernel
theorem t_UF_ok : ∀ k, k < 11 → parseFieldDescriptor (F_UF k).2.2.1 = some (t_UF k) := by decide +kernel
def R_MO : String := "UpperFloorsModel"
def F_MO : u_T := fun k => match k with
  | 0 => ("UpperFloorsModel", "houses", "I", false)
  | 1 => ("UpperFloorsModel", "kind", "[I", true)
  | 2 => ("UpperFloorsModel", "toldOf", "[I", true)
  | 3 => ("UpperFloorsModel", "moreOf", "[I", true)
  | 4 => ("UpperFloorsModel", "highOf", "[I", true)
  | 5 => ("UpperFloorsModel", "peopleOf", "[I", true)
  | 6 => ("UpperFloorsModel", "chainOf", "[I", true)
  | 7 => ("UpperFloorsModel", "tape", "[I", true)
  | 8 => ("UpperFloorsModel", "taped", "I", false)
  | 9 => ("UpperFloorsModel", "codes", "[I", true)
  | 10 => ("UpperFloorsModel", "starts", "[I", true)
  | 11 => ("UpperFloorsModel", "texts", "I", false)
  | 12 => ("UpperFloorsModel", "rule", "I", false)
  | 13 => ("UpperFloorsModel", "hasImage", "Z", false)
  | 14 => ("UpperFloorsModel", "imageHouses", "I", false)
  | 15 => ("UpperFloorsModel", "imageRule", "I", false)
  | 16 => ("UpperFloorsModel", "imageRows", "[I", true)
  | 17 => ("UpperFloorsModel", "sheetSort", "[I", true)
  | 18 => ("UpperFloorsModel", "sheetSize", "[I", true)
  | 19 => ("UpperFloorsModel", "cells", "[I", true)
  | 20 => ("UpperFloorsModel", "law", "[I", true)
  | 21 => ("UpperFloorsModel", "at", "I", false)
  | 22 => ("UpperFloorsModel", "begun", "I", false)
  | 23 => ("UpperFloorsModel", "token", "I", false)
  | 24 => ("UpperFloorsModel", "value", "I", false)
  | 25 => ("UpperFloorsModel", "words", "[I", true)
  | 26 => ("UpperFloorsModel", "held", "[I", true)
  | 27 => ("UpperFloorsModel", "heldMany", "I", false)
  | 28 => ("UpperFloorsModel", "opens", "I", false)
  | 29 => ("UpperFloorsModel", "out", "I", false)
  | 30 => ("UpperFloorsModel", "stack", "[I", true)
  | 31 => ("UpperFloorsModel", "named", "[I", true)
  | 32 => ("UpperFloorsModel", "now", "[I", true)
  | 33 => ("UpperFloorsModel", "moved", "[I", true)
  | 34 => ("UpperFloorsModel", "runs", "[I", true)
  | 35 => ("UpperFloorsModel", "lastHit", "[I", true)
  | 36 => ("UpperFloorsModel", "hitsOf", "[I", true)
  | 37 => ("UpperFloorsModel", "hundredthNow", "I", false)
  | 38 => ("UpperFloorsModel", "lot", "J", false)
  | _ => ("UpperFloorsModel", "keptChain", "[I", true)
def t_MO : Nat → FieldType := fun k => match k with
  | 0 => .int
  | 1 => .array .int
  | 2 => .array .int
  | 3 => .array .int
  | 4 => .array .int
  | 5 => .array .int
  | 6 => .array .int
  | 7 => .array .int
  | 8 => .int
  | 9 => .array .int
  | 10 => .array .int
  | 11 => .int
  | 12 => .int
  | 13 => .boolean
  | 14 => .int
  | 15 => .int
  | 16 => .array .int
  | 17 => .array .int
  | 18 => .array .int
  | 19 => .array .int
  | 20 => .array .int
  | 21 => .int
  | 22 => .int
  | 23 => .int
  | 24 => .int
  | 25 => .array .int
  | 26 => .array .int
  | 27 => .int
  | 28 => .int
  | 29 => .int
  | 30 => .array .int
  | 31 => .array .int
  | 32 => .array .int
  | 33 => .array .int
  | 34 => .array .int
  | 35 => .array .int
  | 36 => .array .int
  | 37 => .int
  | 38 => .long
  | _ => .array .int
theorem n_MO : ∀ a, a < 40 → ∀ b, b < 40 → a ≠ b → (F_MO a).2.1 ≠ (F_MO b).2.1 := by decide +kernel
theorem t_MO_ok : ∀ k, k < 40 → parseFieldDescriptor (F_MO k).2.2.1 = some (t_MO k) := by decide +kernel
abbrev clL : List vw_C := [(R_Aunt, F_Aunt, 3), (R_Braked, F_Braked, 3), (R_Dusk, F_Dusk, 9), (R_Heavy, F_Heavy, 3), (R_House, F_House, 3), (R_Late, F_Late, 3), (R_Law, F_Law, 3), (R_Reader, F_Reader, 7), (R_Sheet, F_Sheet, 3), (R_Stuck, F_Stuck, 3), (R_Town, F_Town, 5), (R_UF, F_UF, 11), (R_MO, F_MO, 40)]
def ftyL : List (List Nat) := [[0, 0, 0], [0, 0, 0], [1, 1, 1, 1, 1, 1, 1, 1, 1], [0, 0, 0], [0, 0, 0], [0, 0, 0], [1, 1, 0], [1, 0, 1, 0, 0, 0, 0], [1, 0, 0], [0, 0, 0], [1, 1, 1, 0, 0], [1, 1, 1, 1, 1, 1, 1, 1, 0, 0, 0], [0, 1, 1, 1, 1, 1, 1, 1, 0, 1, 1, 0, 0, 0, 0, 0, 1, 1, 1, 1, 1, 0, 0, 0, 0, 1, 1, 0, 0, 0, 1, 1, 1, 1, 1, 1, 1, 0, 2, 1]]
def nfL : List Nat := [3, 3, 9, 3, 3, 3, 3, 7, 3, 3, 5, 11, 40]
def tblG : List Cond := lw_tbl.filter goodWord
theorem tG {w : Cond} (i : Nat) (h : tables_1[i]? = some w) (g : goodWord w = true) : w ∈ tblG := List.mem_filter.mpr ⟨List.mem_append_right _ (List.mem_of_getElem? h), g⟩
theorem sG {w : Cond} (i : Nat) (h : (k2_sels lw_privs)[i]? = some w) (g : goodWord w = true) : w ∈ tblG := List.mem_filter.mpr ⟨List.mem_append_left _ (List.mem_of_getElem? h), g⟩
theorem gG : ∀ w ∈ tblG, (w.onTables && w.keeps) = true ∨ ∃ ty, w = .arrayClass ty := fun w h => good_of_word (List.mem_filter.mp h).2
theorem i_Aunt : ∀ w ∈ u_ws R_Aunt F_Aunt 3, w ∈ tblG := by
  intro w h
  have h2 : w = u_lay R_Aunt F_Aunt 0 ∨ w = u_lay R_Aunt F_Aunt 1 ∨ w = u_lay R_Aunt F_Aunt 2 := by simpa [u_ws, List.range, List.range.loop] using h
  rcases h2 with rfl | rfl | rfl
  · exact tG 496 (by decide +kernel) (by decide +kernel)
  · exact tG 497 (by decide +kernel) (by decide +kernel)
  · exact tG 498 (by decide +kernel) (by decide +kernel)
theorem i_Braked : ∀ w ∈ u_ws R_Braked F_Braked 3, w ∈ tblG := by
  intro w h
  have h2 : w = u_lay R_Braked F_Braked 0 ∨ w = u_lay R_Braked F_Braked 1 ∨ w = u_lay R_Braked F_Braked 2 := by simpa [u_ws, List.range, List.range.loop] using h
  rcases h2 with rfl | rfl | rfl
  · exact tG 486 (by decide +kernel) (by decide +kernel)
  · exact tG 487 (by decide +kernel) (by decide +kernel)
  · exact tG 488 (by decide +kernel) (by decide +kernel)
theorem i_Dusk : ∀ w ∈ u_ws R_Dusk F_Dusk 9, w ∈ tblG := by
  intro w h
  have h2 : w = u_lay R_Dusk F_Dusk 0 ∨ w = u_lay R_Dusk F_Dusk 1 ∨ w = u_lay R_Dusk F_Dusk 2 ∨ w = u_lay R_Dusk F_Dusk 3 ∨ w = u_lay R_Dusk F_Dusk 4 ∨ w = u_lay R_Dusk F_Dusk 5 ∨ w = u_lay R_Dusk F_Dusk 6 ∨ w = u_lay R_Dusk F_Dusk 7 ∨ w = u_lay R_Dusk F_Dusk 8 := by simpa [u_ws, List.range, List.range.loop] using h
  rcases h2 with rfl | rfl | rfl | rfl | rfl | rfl | rfl | rfl | rfl
  · exact tG 92 (by decide +kernel) (by decide +kernel)
  · exact tG 94 (by decide +kernel) (by decide +kernel)
  · exact tG 96 (by decide +kernel) (by decide +kernel)
  · exact tG 98 (by decide +kernel) (by decide +kernel)
  · exact tG 100 (by decide +kernel) (by decide +kernel)
  · exact tG 102 (by decide +kernel) (by decide +kernel)
  · exact tG 104 (by decide +kernel) (by decide +kernel)
  · exact tG 106 (by decide +kernel) (by decide +kernel)
  · exact tG 108 (by decide +kernel) (by decide +kernel)
theorem i_Heavy : ∀ w ∈ u_ws R_Heavy F_Heavy 3, w ∈ tblG := by
  intro w h
  have h2 : w = u_lay R_Heavy F_Heavy 0 ∨ w = u_lay R_Heavy F_Heavy 1 ∨ w = u_lay R_Heavy F_Heavy 2 := by simpa [u_ws, List.range, List.range.loop] using h
  rcases h2 with rfl | rfl | rfl
  · exact tG 476 (by decide +kernel) (by decide +kernel)
  · exact tG 477 (by decide +kernel) (by decide +kernel)
  · exact tG 478 (by decide +kernel) (by decide +kernel)
theorem i_House : ∀ w ∈ u_ws R_House F_House 3, w ∈ tblG := by
  intro w h
  have h2 : w = u_lay R_House F_House 0 ∨ w = u_lay R_House F_House 1 ∨ w = u_lay R_House F_House 2 := by simpa [u_ws, List.range, List.range.loop] using h
  rcases h2 with rfl | rfl | rfl
  · exact tG 160 (by decide +kernel) (by decide +kernel)
  · exact tG 162 (by decide +kernel) (by decide +kernel)
  · exact tG 164 (by decide +kernel) (by decide +kernel)
theorem i_Late : ∀ w ∈ u_ws R_Late F_Late 3, w ∈ tblG := by
  intro w h
  have h2 : w = u_lay R_Late F_Late 0 ∨ w = u_lay R_Late F_Late 1 ∨ w = u_lay R_Late F_Late 2 := by simpa [u_ws, List.range, List.range.loop] using h
  rcases h2 with rfl | rfl | rfl
  · exact tG 516 (by decide +kernel) (by decide +kernel)
  · exact tG 517 (by decide +kernel) (by decide +kernel)
  · exact tG 518 (by decide +kernel) (by decide +kernel)
theorem i_Law : ∀ w ∈ u_ws R_Law F_Law 3, w ∈ tblG := by
  intro w h
  have h2 : w = u_lay R_Law F_Law 0 ∨ w = u_lay R_Law F_Law 1 ∨ w = u_lay R_Law F_Law 2 := by simpa [u_ws, List.range, List.range.loop] using h
  rcases h2 with rfl | rfl | rfl
  · exact tG 177 (by decide +kernel) (by decide +kernel)
  · exact tG 179 (by decide +kernel) (by decide +kernel)
  · exact tG 181 (by decide +kernel) (by decide +kernel)
theorem i_Reader : ∀ w ∈ u_ws R_Reader F_Reader 7, w ∈ tblG := by
  intro w h
  have h2 : w = u_lay R_Reader F_Reader 0 ∨ w = u_lay R_Reader F_Reader 1 ∨ w = u_lay R_Reader F_Reader 2 ∨ w = u_lay R_Reader F_Reader 3 ∨ w = u_lay R_Reader F_Reader 4 ∨ w = u_lay R_Reader F_Reader 5 ∨ w = u_lay R_Reader F_Reader 6 := by simpa [u_ws, List.range, List.range.loop] using h
  rcases h2 with rfl | rfl | rfl | rfl | rfl | rfl | rfl
  · exact tG 124 (by decide +kernel) (by decide +kernel)
  · exact tG 126 (by decide +kernel) (by decide +kernel)
  · exact tG 128 (by decide +kernel) (by decide +kernel)
  · exact tG 130 (by decide +kernel) (by decide +kernel)
  · exact tG 132 (by decide +kernel) (by decide +kernel)
  · exact tG 134 (by decide +kernel) (by decide +kernel)
  · exact tG 136 (by decide +kernel) (by decide +kernel)
theorem i_Sheet : ∀ w ∈ u_ws R_Sheet F_Sheet 3, w ∈ tblG := by
  intro w h
  have h2 : w = u_lay R_Sheet F_Sheet 0 ∨ w = u_lay R_Sheet F_Sheet 1 ∨ w = u_lay R_Sheet F_Sheet 2 := by simpa [u_ws, List.range, List.range.loop] using h
  rcases h2 with rfl | rfl | rfl
  · exact tG 195 (by decide +kernel) (by decide +kernel)
  · exact tG 197 (by decide +kernel) (by decide +kernel)
  · exact tG 199 (by decide +kernel) (by decide +kernel)
theorem i_Stuck : ∀ w ∈ u_ws R_Stuck F_Stuck 3, w ∈ tblG := by
  intro w h
  have h2 : w = u_lay R_Stuck F_Stuck 0 ∨ w = u_lay R_Stuck F_Stuck 1 ∨ w = u_lay R_Stuck F_Stuck 2 := by simpa [u_ws, List.range, List.range.loop] using h
  rcases h2 with rfl | rfl | rfl
  · exact tG 506 (by decide +kernel) (by decide +kernel)
  · exact tG 507 (by decide +kernel) (by decide +kernel)
  · exact tG 508 (by decide +kernel) (by decide +kernel)
theorem i_Town : ∀ w ∈ u_ws R_Town F_Town 5, w ∈ tblG := by
  intro w h
  have h2 : w = u_lay R_Town F_Town 0 ∨ w = u_lay R_Town F_Town 1 ∨ w = u_lay R_Town F_Town 2 ∨ w = u_lay R_Town F_Town 3 ∨ w = u_lay R_Town F_Town 4 := by simpa [u_ws, List.range, List.range.loop] using h
  rcases h2 with rfl | rfl | rfl | rfl | rfl
  · exact tG 57 (by decide +kernel) (by decide +kernel)
  · exact tG 59 (by decide +kernel) (by decide +kernel)
  · exact tG 61 (by decide +kernel) (by decide +kernel)
  · exact tG 63 (by decide +kernel) (by decide +kernel)
  · exact tG 65 (by decide +kernel) (by decide +kernel)
theorem i_UF : ∀ w ∈ u_ws R_UF F_UF 11, w ∈ tblG := by
  intro w h
  have h2 : w = u_lay R_UF F_UF 0 ∨ w = u_lay R_UF F_UF 1 ∨ w = u_lay R_UF F_UF 2 ∨ w = u_lay R_UF F_UF 3 ∨ w = u_lay R_UF F_UF 4 ∨ w = u_lay R_UF F_UF 5 ∨ w = u_lay R_UF F_UF 6 ∨ w = u_lay R_UF F_UF 7 ∨ w = u_lay R_UF F_UF 8 ∨ w = u_lay R_UF F_UF 9 ∨ w = u_lay R_UF F_UF 10 := by simpa [u_ws, List.range, List.range.loop] using h
  rcases h2 with rfl | rfl | rfl | rfl | rfl | rfl | rfl | rfl | rfl | rfl | rfl
  · exact tG 357 (by decide +kernel) (by decide +kernel)
  · exact tG 359 (by decide +kernel) (by decide +kernel)
  · exact tG 361 (by decide +kernel) (by decide +kernel)
  · exact tG 363 (by decide +kernel) (by decide +kernel)
  · exact tG 365 (by decide +kernel) (by decide +kernel)
  · exact tG 367 (by decide +kernel) (by decide +kernel)
  · exact tG 369 (by decide +kernel) (by decide +kernel)
  · exact tG 371 (by decide +kernel) (by decide +kernel)
  · exact tG 373 (by decide +kernel) (by decide +kernel)
  · exact tG 375 (by decide +kernel) (by decide +kernel)
  · exact tG 377 (by decide +kernel) (by decide +kernel)
theorem i_MO : ∀ w ∈ u_ws R_MO F_MO 40, w ∈ tblG := by
  intro w h
  have h2 : w = u_lay R_MO F_MO 0 ∨ w = u_lay R_MO F_MO 1 ∨ w = u_lay R_MO F_MO 2 ∨ w = u_lay R_MO F_MO 3 ∨ w = u_lay R_MO F_MO 4 ∨ w = u_lay R_MO F_MO 5 ∨ w = u_lay R_MO F_MO 6 ∨ w = u_lay R_MO F_MO 7 ∨ w = u_lay R_MO F_MO 8 ∨ w = u_lay R_MO F_MO 9 ∨ w = u_lay R_MO F_MO 10 ∨ w = u_lay R_MO F_MO 11 ∨ w = u_lay R_MO F_MO 12 ∨ w = u_lay R_MO F_MO 13 ∨ w = u_lay R_MO F_MO 14 ∨ w = u_lay R_MO F_MO 15 ∨ w = u_lay R_MO F_MO 16 ∨ w = u_lay R_MO F_MO 17 ∨ w = u_lay R_MO F_MO 18 ∨ w = u_lay R_MO F_MO 19 ∨ w = u_lay R_MO F_MO 20 ∨ w = u_lay R_MO F_MO 21 ∨ w = u_lay R_MO F_MO 22 ∨ w = u_lay R_MO F_MO 23 ∨ w = u_lay R_MO F_MO 24 ∨ w = u_lay R_MO F_MO 25 ∨ w = u_lay R_MO F_MO 26 ∨ w = u_lay R_MO F_MO 27 ∨ w = u_lay R_MO F_MO 28 ∨ w = u_lay R_MO F_MO 29 ∨ w = u_lay R_MO F_MO 30 ∨ w = u_lay R_MO F_MO 31 ∨ w = u_lay R_MO F_MO 32 ∨ w = u_lay R_MO F_MO 33 ∨ w = u_lay R_MO F_MO 34 ∨ w = u_lay R_MO F_MO 35 ∨ w = u_lay R_MO F_MO 36 ∨ w = u_lay R_MO F_MO 37 ∨ w = u_lay R_MO F_MO 38 ∨ w = u_lay R_MO F_MO 39 := by simpa [u_ws, List.range, List.range.loop] using h
  rcases h2 with rfl | rfl | rfl | rfl | rfl | rfl | rfl | rfl | rfl | rfl | rfl | rfl | rfl | rfl | rfl | rfl | rfl | rfl | rfl | rfl | rfl | rfl | rfl | rfl | rfl | rfl | rfl | rfl | rfl | rfl | rfl | rfl | rfl | rfl | rfl | rfl | rfl | rfl | rfl | rfl
  · exact tG 923 (by decide +kernel) (by decide +kernel)
  · exact tG 925 (by decide +kernel) (by decide +kernel)
  · exact tG 927 (by decide +kernel) (by decide +kernel)
  · exact tG 929 (by decide +kernel) (by decide +kernel)
  · exact tG 931 (by decide +kernel) (by decide +kernel)
  · exact tG 933 (by decide +kernel) (by decide +kernel)
  · exact tG 935 (by decide +kernel) (by decide +kernel)
  · exact tG 937 (by decide +kernel) (by decide +kernel)
  · exact tG 939 (by decide +kernel) (by decide +kernel)
  · exact tG 941 (by decide +kernel) (by decide +kernel)
  · exact tG 943 (by decide +kernel) (by decide +kernel)
  · exact tG 945 (by decide +kernel) (by decide +kernel)
  · exact tG 947 (by decide +kernel) (by decide +kernel)
  · exact tG 949 (by decide +kernel) (by decide +kernel)
  · exact tG 951 (by decide +kernel) (by decide +kernel)
  · exact tG 953 (by decide +kernel) (by decide +kernel)
  · exact tG 955 (by decide +kernel) (by decide +kernel)
  · exact tG 957 (by decide +kernel) (by decide +kernel)
  · exact tG 959 (by decide +kernel) (by decide +kernel)
  · exact tG 961 (by decide +kernel) (by decide +kernel)
  · exact tG 963 (by decide +kernel) (by decide +kernel)
  · exact tG 965 (by decide +kernel) (by decide +kernel)
  · exact tG 967 (by decide +kernel) (by decide +kernel)
  · exact tG 969 (by decide +kernel) (by decide +kernel)
  · exact tG 971 (by decide +kernel) (by decide +kernel)
  · exact tG 973 (by decide +kernel) (by decide +kernel)
  · exact tG 975 (by decide +kernel) (by decide +kernel)
  · exact tG 977 (by decide +kernel) (by decide +kernel)
  · exact tG 979 (by decide +kernel) (by decide +kernel)
  · exact tG 981 (by decide +kernel) (by decide +kernel)
  · exact tG 983 (by decide +kernel) (by decide +kernel)
  · exact tG 985 (by decide +kernel) (by decide +kernel)
  · exact tG 987 (by decide +kernel) (by decide +kernel)
  · exact tG 989 (by decide +kernel) (by decide +kernel)
  · exact tG 991 (by decide +kernel) (by decide +kernel)
  · exact tG 993 (by decide +kernel) (by decide +kernel)
  · exact tG 995 (by decide +kernel) (by decide +kernel)
  · exact tG 997 (by decide +kernel) (by decide +kernel)
  · exact tG 999 (by decide +kernel) (by decide +kernel)
  · exact tG 1001 (by decide +kernel) (by decide +kernel)
end
section
/-! The abstract heap and the judgement At -/
abbrev MI : Type := Nat → Int32 → Int32
abbrev ML : Type := Nat → Int32 → Int64
abbrev MR : Type := Nat → Nat → Nat
abbrev MS : Type := Nat → Nat × Nat
/-- ints, longs, refs (0 null, k + 1 the cell k), shapes (a class, or 100 and more: an array; its length), how many dynamic cells -/
abbrev AH : Type := MI × ML × MR × MS × Nat
/-- the fixed part: refs, shapes, how many cells -/
abbrev TT : Type := (Nat → Nat → Option Nat) × (Nat → Option (Nat × Nat)) × Nat
def rR (T : TT) (h : AH) (a k : Nat) : Nat := match T.1 a k with
  | some v => v
  | none => h.2.2.1 a k
def rS (T : TT) (h : AH) (a : Nat) : Nat × Nat := match T.2.1 a with
  | some v => v
  | none => h.2.2.2.1 a
def nC (T : TT) (h : AH) : Nat := T.2.2 + h.2.2.2.2
def up (f : Int32 → Int32) (k x : Int32) : Int32 → Int32 := fun j => if j = k then x else f j
def upL (f : Int32 → Int64) (k : Int32) (x : Int64) : Int32 → Int64 := fun j => if j = k then x else f j
def upR (f : Nat → Nat) (k x : Nat) : Nat → Nat := fun j => if j = k then x else f j
def wI (h : AH) (a : Nat) (k x : Int32) : AH := (fun b => if b = a then up (h.1 a) k x else h.1 b, h.2)
def wL (h : AH) (a : Nat) (k : Int32) (x : Int64) : AH := (h.1, fun b => if b = a then upL (h.2.1 a) k x else h.2.1 b, h.2.2)
def wR (h : AH) (a k x : Nat) : AH := (h.1, h.2.1, fun b => if b = a then upR (h.2.2.1 a) k x else h.2.2.1 b, h.2.2.2)
/-- a new cell: all zero -/
def wN (T : TT) (h : AH) (s : Nat × Nat) : AH := (fun b => if b = nC T h then (fun _ => 0) else h.1 b, fun b => if b = nC T h then (fun _ => 0) else h.2.1 b, fun b => if b = nC T h then (fun _ => 0) else h.2.2.1 b, fun b => if b = nC T h then s else h.2.2.2.1 b, h.2.2.2.2 + 1)
def nthN {α : Type} : List α → Nat → α → α
  | [], _, z => z
  | a :: _, 0, _ => a
  | _ :: l, k + 1, z => nthN l k z
def fty (c k : Nat) : Nat := nthN (nthN ftyL c []) k 0
def nfD (c : Nat) : Nat := nthN nfL c 0
/-- the launch, the classes' places, the array classes, the first address, other addresses (0 .. String constants, 100 .. their bytes, 200 the script), the script's length and cells -/
abbrev GG : Type := Launch × va_G × (Nat → ClassId) × Nat × (Nat → Nat) × Nat × (Nat → Int32)
def gb (G : GG) : Nat := G.2.2.2.1
def ga (G : GG) (k : Nat) : Nat := if k < 1000000 then gb G + k else G.2.2.2.2.1 (k - 1000000)
def cv (G : GG) : Value → Value
  | .ref k => .ref (ga G k)
  | v => v
def vR : Nat → Value
  | 0 => .null
  | k + 1 => .ref k
def oR (G : GG) : Nat → Option Nat
  | 0 => none
  | k + 1 => some (ga G k)
theorem oR_rf (G : GG) (x : Nat) : va_rf (oR G x) = cv G (vR x) := by cases x <;> rfl
theorem cat_cv (G : GG) (v : Value) : (cv G v).category = v.category := by cases v <;> rfl
theorem sum_cv (G : GG) (st : List Value) : ((st.map (cv G)).map fun v => v.category).sum = (st.map fun v => v.category).sum := by
  rw [List.map_map]
  congr 1
  exact List.map_congr_left (fun v _ => cat_cv G v)
def fV (T : TT) (h : AH) (a t k : Nat) : Value := match t with
  | 0 => .int (h.1 a (Int32.ofNat k))
  | 1 => vR (rR T h a k)
  | _ => .long (h.2.1 a (Int32.ofNat k))
def entO (G : GG) (T : TT) (h : AH) (a c : Nat) : List Value := (List.range (nfD c)).map (fun k => cv G (fV T h a (fty c k) k))
def entI (h : AH) (a : Nat) : Nat → Int32 := fun j => if j < 2147483648 then h.1 a (Int32.ofNat j) else 0
def entR (G : GG) (T : TT) (h : AH) (a : Nat) : Nat → Option Nat := fun j => oR G (rR T h a j)
def ent (G : GG) (T : TT) (h : AH) (a : Nat) : va_E :=
  if (rS T h a).1 < 100 then .inr ((rS T h a).1, entO G T h a (rS T h a).1)
  else if (rS T h a).1 = 100 then .inl (G.2.2.1 0, (rS T h a).2, .inl (entI h a))
  else .inl (G.2.2.1 ((rS T h a).1 - 100), (rS T h a).2, .inr (.inr (.inr (.inr (entR G T h a)))))
theorem ent_o {G : GG} {T : TT} {h : AH} {a c : Nat} (hs : (rS T h a).1 = c) (hc : c < 100) : ent G T h a = .inr (c, entO G T h a c) := by
  subst hs; unfold ent; rw [if_pos hc]
theorem ent_i {G : GG} {T : TT} {h : AH} {a n : Nat} (hs : rS T h a = (100, n)) : ent G T h a = .inl (G.2.2.1 0, n, .inl (entI h a)) := by
  unfold ent; rw [hs]; rfl
theorem ent_r {G : GG} {T : TT} {h : AH} {a t n : Nat} (hs : rS T h a = (101 + t, n)) : ent G T h a = .inl (G.2.2.1 (t + 1), n, .inr (.inr (.inr (.inr (entR G T h a))))) := by
  unfold ent
  rw [hs, if_neg (by show ¬ 101 + t < 100; omega), if_neg (by show ¬ 101 + t = 100; omega), show (101 + t, n).1 - 100 = t + 1 by show 101 + t - 100 = t + 1; omega]
abbrev vA (T : TT) (h : AH) (a : Nat) : Prop := a < nC T h
/-- the machine's heap holds the abstract one -/
def HR (G : GG) (T : TT) (h : AH) (H : Heap) : Prop := H.size = gb G + nC T h ∧ ∀ k, k < nC T h → va_at G.2.1 clL (gb G + k, ent G T h k) H
theorem HR.P {G : GG} {T : TT} {h : AH} {H : Heap} (hh : HR G T h H) {a : Nat} (ha : vA T h a) : va_P G.2.1 clL [(gb G + a, ent G T h a)] H := by
  intro k q hk
  cases k with
  | zero => cases hk; exact hh.2 a ha
  | succ k => cases hk
theorem HR.upd {G : GG} {T : TT} {h h' : AH} {H H' : Heap} {a : Nat} (hh : HR G T h H) (hn : nC T h' = nC T h) (he : ∀ j, j ≠ a → ent G T h' j = ent G T h j) (hz : H'.size = H.size) (oq : ∀ q : Nat, q ≠ gb G + a → H'[q]? = H[q]?) (hat : va_at G.2.1 clL (gb G + a, ent G T h' a) H') : HR G T h' H' := by
  refine ⟨by rw [hz, hn]; exact hh.1, fun k hk => ?_⟩
  by_cases hka : k = a
  · rw [hka]; exact hat
  · rw [he k hka]
    exact (hh.2 k (by rw [← hn]; exact hk)).kept (oq _ (by show gb G + k ≠ _; omega))
theorem HR.push {G : GG} {T : TT} {h h' : AH} {H H' : Heap} (hh : HR G T h H) (hn : nC T h' = nC T h + 1) (he : ∀ j, j < nC T h → ent G T h' j = ent G T h j) (hz : H'.size = H.size + 1) (oq : ∀ q : Nat, q < H.size → H'[q]? = H[q]?) (hat : va_at G.2.1 clL (gb G + nC T h, ent G T h' (nC T h)) H') : HR G T h' H' := by
  refine ⟨by rw [hz, hn, hh.1]; omega, fun k hk => ?_⟩
  by_cases hka : k < nC T h
  · rw [he k hka]
    exact (hh.2 k hka).kept (oq _ (hh.2 k hka).lt)
  · have : k = nC T h := by omega
    rw [this]; exact hat
/-! what stands beside: nest mates' words, pairs not castable, String constants -/
abbrev tyG (G : GG) : List (ClassId × FieldType) := [(G.2.2.1 0, .int), (G.2.2.1 1, .object R_House), (G.2.2.1 2, .object R_Law), (G.2.2.1 3, .object R_Sheet)]
def nestL : List (String × Nat × MethodName × String) := [("UpperFloors", 33, ⟨"UpperFloors$Town", "<init>", "()V"⟩, "UpperFloors"), ("UpperFloors", 43, ⟨"UpperFloors$Dusk", "<init>", "()V"⟩, "UpperFloors"), ("UpperFloors$Dusk", 11, ⟨"UpperFloors$Town", "<init>", "()V"⟩, "UpperFloors"), ("UpperFloors", 50, ⟨"UpperFloors$Reader", "<init>", "()V"⟩, "UpperFloors"), ("UpperFloors", 58, ⟨"UpperFloors$Law", "<init>", "()V"⟩, "UpperFloors"), ("UpperFloors", 59, ⟨"UpperFloors$Sheet", "<init>", "()V"⟩, "UpperFloors"), ("UpperFloors$Reader", 140, ⟨"UpperFloors", "within", "(III)Z"⟩, "UpperFloors"), ("UpperFloors$Law", 26, ⟨"UpperFloors", "within", "(III)Z"⟩, "UpperFloors"), ("UpperFloors$Town", 34, ⟨"UpperFloors", "within", "(III)Z"⟩, "UpperFloors")]
def castL : List (String × String) := [("UpperFloors$Aunt", "UpperFloors$Heavy"), ("UpperFloors$Stuck", "UpperFloors$Braked"), ("UpperFloors$Heavy", "UpperFloors$House"), ("UpperFloors$Braked", "UpperFloors$House"), ("UpperFloors$Aunt", "UpperFloors$House"), ("UpperFloors$Stuck", "UpperFloors$House"), ("UpperFloors$Late", "UpperFloors$House")]
def ncL : List (String × String) := [("UpperFloors$House", "UpperFloors$Heavy"), ("UpperFloors$House", "UpperFloors$Braked"), ("UpperFloors$House", "UpperFloors$Aunt"), ("UpperFloors$House", "UpperFloors$Stuck"), ("UpperFloors$House", "UpperFloors$Late"), ("UpperFloors$Heavy", "UpperFloors$Braked"), ("UpperFloors$Heavy", "UpperFloors$Aunt"), ("UpperFloors$Heavy", "UpperFloors$Stuck"), ("UpperFloors$Heavy", "UpperFloors$Late"), ("UpperFloors$Braked", "UpperFloors$Heavy"), ("UpperFloors$Braked", "UpperFloors$Aunt"), ("UpperFloors$Braked", "UpperFloors$Stuck"), ("UpperFloors$Braked", "UpperFloors$Late"), ("UpperFloors$Aunt", "UpperFloors$Braked"), ("UpperFloors$Aunt", "UpperFloors$Stuck"), ("UpperFloors$Aunt", "UpperFloors$Late"), ("UpperFloors$Stuck", "UpperFloors$Heavy"), ("UpperFloors$Stuck", "UpperFloors$Aunt"), ("UpperFloors$Stuck", "UpperFloors$Late"), ("UpperFloors$Late", "UpperFloors$Heavy"), ("UpperFloors$Late", "UpperFloors$Braked"), ("UpperFloors$Late", "UpperFloors$Aunt"), ("UpperFloors$Late", "UpperFloors$Stuck")]
def strL : List (String × Nat × String) := [("UpperFloors", 60, "weighs told + people * 5 ; holds 2 ; hits speed * people ;"), ("UpperFloors$Reader", 99, "weighs"), ("UpperFloors$Reader", 105, "holds"), ("UpperFloors$Reader", 107, "hits"), ("UpperFloors$Reader", 109, "or"), ("UpperFloors$Reader", 111, "and"), ("UpperFloors$Reader", 113, "not"), ("UpperFloors$Reader", 119, "told"), ("UpperFloors$Reader", 121, "people"), ("UpperFloors$Reader", 123, "more"), ("UpperFloors$Reader", 125, "high"), ("UpperFloors$Reader", 127, "minute"), ("UpperFloors$Reader", 129, "speed")]
def strLen : List Nat := [58, 6, 5, 4, 2, 3, 3, 4, 6, 4, 4, 6, 5]
def strByt : List (List Int32) := [[119, 101, 105, 103, 104, 115, 32, 116, 111, 108, 100, 32, 43, 32, 112, 101, 111, 112, 108, 101, 32, 42, 32, 53, 32, 59, 32, 104, 111, 108, 100, 115, 32, 50, 32, 59, 32, 104, 105, 116, 115, 32, 115, 112, 101, 101, 100, 32, 42, 32, 112, 101, 111, 112, 108, 101, 32, 59], [119, 101, 105, 103, 104, 115], [104, 111, 108, 100, 115], [104, 105, 116, 115], [111, 114], [97, 110, 100], [110, 111, 116], [116, 111, 108, 100], [112, 101, 111, 112, 108, 101], [109, 111, 114, 101], [104, 105, 103, 104], [109, 105, 110, 117, 116, 101], [115, 112, 101, 101, 100]]
def SW (G : GG) (U : State) (H : Heap) : Prop :=
  (∀ x ∈ nestL, va_Nw (.methodLinkNest x.1 x.2.1 x.2.2.1 x.2.2.2) U) ∧ (∀ x ∈ castL, va_Nw (.castable x.1 x.2) U) ∧ (∀ x ∈ ncL, va_Nc x.1 x.2 U) ∧
  (va_AO R_House U ∧ va_AO R_Law U ∧ va_AO R_Sheet U) ∧ vk_S 13 strLen strByt G.2.2.2.2.1 (fun i => G.2.2.2.2.1 (100 + i)) (fun a => gb G ≤ a) U H ∧
  (∀ (i : Nat) (x : String × Nat × String), strL[i]? = some x → vk_R x.1 x.2.1 x.2.2 (G.2.2.2.2.1 i) U) ∧ va_Z "java/lang/String" "COMPACT_STRINGS" "Z" (.int 1) (fun a => gb G ≤ a) U H ∧
  va_T .int (G.2.2.2.2.1 200) G.2.2.2.2.2.1 (fun j => .int (G.2.2.2.2.2.2 j)) (fun a => gb G ≤ a) U H ∧
  (va_Z "jdk/internal/util/Preconditions" "SIOOBE_FORMATTER" "Ljava/util/function/BiFunction;" .null (fun a => gb G ≤ a) U H ∨ va_Z "jdk/internal/util/Preconditions" "SIOOBE_FORMATTER" "Ljava/util/function/BiFunction;" (.ref (G.2.2.2.2.1 300)) (fun a => gb G ≤ a) U H)
theorem SW.step {G : GG} {s U : State} {H0 H1 : Heap} (h : SW G s H0) (hW : s.WarmedH U.vm) (hq : ∀ a : Nat, a < H0.size → ¬ gb G ≤ a → H1[a]? = H0[a]?) : SW G U H1 := by
  obtain ⟨h1, h2, h3, ⟨h4, h5, h6⟩, h7, h8, h9, h10, h11⟩ := h
  exact ⟨fun x hx => va_Nw.warmM hW (h1 x hx), fun x hx => va_Nw.warmC hW (h2 x hx), fun x hx => (h3 x hx).moved hW.alike, ⟨h4.moved hW.alike, h5.moved hW.alike, h6.moved hW.alike⟩,
    (h7.moved hW.alike).kept hq, fun i x hx => (h8 i x hx).warm hW, (h9.moved hW.alike).kept hq, (h10.moved hW.alike).kept hq, h11.imp (fun z => (z.moved hW.alike).kept hq) (fun z => (z.moved hW.alike).kept hq)⟩
/-! methods -/
/-- class, name, bytes, locals, return type -/
abbrev MM : Type := String × MethodName × ByteArray × Nat × Option FieldType
abbrev LL : Type := List (Option Value)
abbrev QQ : Type := Option Value → AH → Prop
def nth : LL → Nat → Option Value
  | [], _ => none
  | a :: _, 0 => a
  | _ :: l, k + 1 => nth l k
def sth : LL → Nat → Option Value → LL
  | [], _, _ => []
  | _ :: l, 0, v => v :: l
  | a :: l, k + 1, v => a :: sth l k v
def asc (G : GG) : Nat → LL → List (Nat × Value)
  | _, [] => []
  | i, none :: l => asc G (i + 1) l
  | i, some v :: l => (i, cv G v) :: asc G (i + 1) l
theorem asc_in {G : GG} : ∀ {L : LL} {i k : Nat} {v : Value}, nth L k = some v → (i + k, cv G v) ∈ asc G i L := by
  intro L
  induction L with
  | nil => intro i k v h; cases h
  | cons a l ih =>
    intro i k v h
    cases k with
    | zero => cases a with
      | none => cases h
      | some w => cases h; exact List.mem_cons_self
    | succ k =>
      have h1 := ih (i := i + 1) (k := k) (v := v) h
      rw [show i + 1 + k = i + (k + 1) by omega] at h1
      cases a with
      | none => exact h1
      | some w => exact List.mem_cons_of_mem _ h1
theorem asc_of {G : GG} : ∀ {L : LL} {i : Nat} {q : Nat × Value}, q ∈ asc G i L → ∃ (k : Nat) (v : Value), q = (i + k, cv G v) ∧ nth L k = some v := by
  intro L
  induction L with
  | nil => intro i q h; cases h
  | cons a l ih =>
    intro i q h
    cases a with
    | none =>
      obtain ⟨k, v, h1, h2⟩ := ih (i := i + 1) h
      exact ⟨k + 1, v, by rw [h1, show i + 1 + k = i + (k + 1) by omega], h2⟩
    | some w =>
      rcases List.mem_cons.mp h with h | h
      · exact ⟨0, w, h, rfl⟩
      · obtain ⟨k, v, h1, h2⟩ := ih (i := i + 1) h
        exact ⟨k + 1, v, by rw [h1, show i + 1 + k = i + (k + 1) by omega], h2⟩
theorem nth_sth_ne : ∀ {L : LL} {i j : Nat} {v : Option Value}, j ≠ i → nth (sth L i v) j = nth L j := by
  intro L
  induction L with
  | nil => intro i j v h; rfl
  | cons a l ih =>
    intro i j v h
    cases i with
    | zero => cases j with
      | zero => exact absurd rfl h
      | succ j => rfl
    | succ i => cases j with
      | zero => rfl
      | succ j => exact ih (fun e => h (by rw [e]))
theorem nth_sth_eq : ∀ {L : LL} {i : Nat} {v : Option Value} {w : Value}, nth (sth L i v) i = some w → v = some w := by
  intro L
  induction L with
  | nil => intro i v w h; cases h
  | cons a l ih =>
    intro i v w h
    cases i with
    | zero => exact h
    | succ i => exact ih h
/-- the local below isn't a long's first half -/
def okb (L : LL) : Nat → Bool
  | 0 => true
  | j + 1 => match nth L j with
    | some v => v.category == 1
    | none => true
theorem okb_spec {L : LL} {i j : Nat} {v : Value} (h : okb L i = true) (hj : j + 1 = i) (hv : nth L j = some v) : v.category = 1 := by
  subst hj
  simp only [okb, hv] at h
  exact of_decide_eq_true h
theorem lr_get {G : GG} {ls : Array Slot} {nL : Nat} {L : LL} (h : lv_has ls nL (asc G 0 L)) {k : Nat} {v : Value} (hk : nth L k = some v) : ls[k]? = some (.val (cv G v)) := by
  have h1 := h.2.2 _ (asc_in (G := G) (i := 0) hk)
  rwa [Nat.zero_add] at h1
theorem lr_st1 {G : GG} {ls : Array Slot} {nL : Nat} {L : LL} {i : Nat} {v : Value} (h : lv_has ls nL ((i, cv G v) :: (asc G 0 L).filter (fun q => !(q.1 == i) && !(q.1 + 1 == i && q.2.category == 2)))) (ho : okb L i = true) : lv_has ls nL (asc G 0 (sth L i (some v))) := by
  refine ⟨h.1, h.2.1, fun q hq => ?_⟩
  obtain ⟨k, w, rfl, hw⟩ := asc_of hq
  rw [Nat.zero_add]
  by_cases hk : k = i
  · subst hk
    cases nth_sth_eq hw
    exact h.2.2 _ List.mem_cons_self
  · rw [nth_sth_ne hk] at hw
    refine h.2.2 (k, cv G w) (List.mem_cons_of_mem _ (List.mem_filter.mpr ⟨?_, ?_⟩))
    · have := asc_in (G := G) (i := 0) hw
      rwa [Nat.zero_add] at this
    · by_cases hki : k + 1 = i
      · have := okb_spec ho hki hw
        simp [hk, cat_cv, this]
      · simp [hk, hki]
theorem lr_st2 {G : GG} {ls : Array Slot} {nL : Nat} {L : LL} {i : Nat} {v : Value} (h : lv_has ls nL ((i, cv G v) :: (asc G 0 L).filter (fun q => !(q.1 == i) && (!(q.1 == i + 1) && !(q.1 + 1 == i && q.2.category == 2))))) (ho : okb L i = true) : lv_has ls nL (asc G 0 (sth (sth L (i + 1) none) i (some v))) := by
  refine ⟨h.1, h.2.1, fun q hq => ?_⟩
  obtain ⟨k, w, rfl, hw⟩ := asc_of hq
  rw [Nat.zero_add]
  by_cases hk : k = i
  · subst hk
    cases nth_sth_eq hw
    exact h.2.2 _ List.mem_cons_self
  · rw [nth_sth_ne hk] at hw
    by_cases hk1 : k = i + 1
    · subst hk1
      cases nth_sth_eq hw
    · rw [nth_sth_ne hk1] at hw
      refine h.2.2 (k, cv G w) (List.mem_cons_of_mem _ (List.mem_filter.mpr ⟨?_, ?_⟩))
      · have := asc_in (G := G) (i := 0) hw
        rwa [Nat.zero_add] at this
      · by_cases hki : k + 1 = i
        · have := okb_spec ho hki hw
          simp [hk, hk1, cat_cv, this]
        · simp [hk, hk1, hki]
/-- what holds inside a body -/
def CX (G : GG) (q : MM) (d : Nat) (p : Program) (R : Room) (s : State) (m : MethodId) (args : Array Value) (meth : Method) (c : Code) : Prop :=
  p.tables.exec = Jvm.exec ∧ c.code = q.2.2.1 ∧ c.maxLocals = q.2.2.2.1 ∧ s.vm.findClass q.1 = some m.cls ∧ meth.name = q.2.1.name ∧ (∀ w ∈ tblG, w.before args s = true) ∧ va_K G.2.1 clL (tyG G) s ∧ SW G s s.heap ∧ gb G ≤ s.heap.size ∧ d ≤ R.frames ∧ 40 * d ≤ R.locals
abbrev fr (G : GG) : Nat → Prop := fun a => gb G ≤ a
def okR (q : MM) (pc : Nat) : Option Value → Prop
  | none => decode q.2.2.1 pc = .ok (.return_, 1) ∧ q.2.2.2.2 = none
  | some (.int x) => decode q.2.2.1 pc = .ok (.ireturn, 1) ∧ ∃ ty, q.2.2.2.2 = some ty ∧ narrow ty (.int x) = .int x
  | some (.long _) => decode q.2.2.1 pc = .ok (.lreturn, 1) ∧ q.2.2.2.2 = some .long
  | some (.ref _) => decode q.2.2.1 pc = .ok (.areturn, 1) ∧ ∃ n, q.2.2.2.2 = some (.object n)
  | some _ => False
/-- the way out -/
def EX (G : GG) (T : TT) (q : MM) (Q : QQ) (KK : Nat) (p : Program) (e : Env) (R : Room) (s : State) (m : MethodId) (args : Array Value) (below : List Frame) (meth : Method) (c : Code) (Zs : State → Prop) : Prop :=
  ∀ (H : Heap) (locs : List Loc) (cells slots : Nat) (h : AH) (ls : Array Slot) (pc : Nat) (v : Option Value), HR G T h H → va_S (fr G) s.heap H locs → cells ≤ R.cells → slots ≤ R.slots → nC T h ≤ KK → Q v h → okR q pc v →
    W p G.1 e R s m args below meth c H locs cells slots Zs (F0 m pc ls (v.toList.map (cv G)))
/-- from this pc, locals, stack, heap the method comes to its end with Q, whatever stands around -/
def Att (G : GG) (T : TT) (q : MM) (d : Nat) (pc : Nat) (L : LL) (st : List Value) (h : AH) (bc bs : Nat) (Q : QQ) : Prop :=
  ∀ (p : Program) (e : Env) (R : Room) (s : State) (m : MethodId) (args : Array Value) (below : List Frame) (meth : Method) (c : Code) (H : Heap) (locs : List Loc) (cells slots KK : Nat) (Zs : State → Prop) (ls : Array Slot),
    CX G q d p R s m args meth c → HR G T h H → va_S (fr G) s.heap H locs → lv_has ls q.2.2.2.1 (asc G 0 L) → cells + bc ≤ R.cells → slots + bs ≤ R.slots → nC T h + bc ≤ KK → KK ≤ 700000 → EX G T q Q KK p e R s m args below meth c Zs →
    W p G.1 e R s m args below meth c H locs cells slots Zs (F0 m pc ls (st.map (cv G)))
def wsM (q : MM) : List Cond := Cond.code q.2.1 q.2.2.1 q.2.2.2.1 q.2.2.2.2 :: tblG
def PcW (G : GG) (T : TT) (Vs : List Value) (h : AH) (mc : Nat) : Array Value → State → Prop := fun a U => a = (Vs.map (cv G)).toArray ∧ HR G T h U.heap ∧ va_K G.2.1 clL (tyG G) U ∧ SW G U U.heap ∧ gb G ≤ U.heap.size ∧ nC T h + mc ≤ 700000
def QcW (G : GG) (T : TT) (h : AH) (mc : Nat) (Q : QQ) : Array Value → State → Outcome → State → Prop := fun _ st o t => (∃ (v : Option Value) (h' : AH), o = .returned (v.map (cv G)) ∧ Q v h' ∧ HR G T h' t.heap ∧ nC T h' ≤ nC T h + mc) ∧ va_F (fr G) st t
/-- a method's contract: at these arguments and this heap it ends with Q -/
def WP (G : GG) (T : TT) (q : MM) (d : Nat) (Vs : List Value) (h : AH) (mc ms : Nat) (Q : QQ) : Prop :=
  Met G.1 q.2.1 (wsM q) ({ frames := d, cells := mc, slots := ms, locals := 40 * d }) (PcW G T Vs h mc) (QcW G T h mc Q) mc ms (fr G)
def lay0 : List Value → LL
  | [] => []
  | v :: r => if v.category = 2 then some v :: none :: lay0 r else some v :: lay0 r
theorem asc_nones (G : GG) (n : Nat) : ∀ i, asc G i (List.replicate n none) = [] := by
  induction n with
  | zero => intro i; rfl
  | succ n ih => intro i; exact ih (i + 1)
theorem asc_lay0 (G : GG) (n : Nat) : ∀ (Vs : List Value) (i : Nat), asc G i (lay0 Vs ++ List.replicate n none) = lv_args i (Vs.map (cv G)) := by
  intro Vs
  induction Vs with
  | nil => intro i; exact asc_nones G n i
  | cons v r ih =>
    intro i
    by_cases hv : v.category = 2
    · simp only [lay0, if_pos hv, List.cons_append, asc, List.map_cons, lv_args, cat_cv]
      rw [ih]
    · simp only [lay0, if_neg hv, List.cons_append, asc, List.map_cons, lv_args, cat_cv]
      rw [ih]
theorem WP.enter {G : GG} {T : TT} {q : MM} {d : Nat} {Vs : List Value} {h : AH} {mc ms : Nat} {Q : QQ} (n : Nat) (hy : plainName q.2.1.cls = true) (hc : q.2.1.cls = q.1) (hn : (lay0 Vs).length + n = q.2.2.2.1) (k : Att G T q d 0 (lay0 Vs ++ List.replicate n none) [] h mc ms Q) : WP G T q d Vs h mc ms Q := by
  refine Met.ofW (cc := q.2.2.1) (maxL := q.2.2.2.1) (ret := q.2.2.2.2) hy rfl ?_
  intro p e s m args below meth c s₁ B hml hv
  obtain ⟨rfl, hH, hK, hSW, hgb, hkk⟩ := hv
  have hlen : ∀ (us : List Value), (lg_sl (us.map (cv G))).length = (lay0 us).length := by
    intro us
    induction us with
    | nil => rfl
    | cons v r ih =>
      by_cases hv : v.category = 2
      · simp only [lg_sl, List.map_cons, List.flatMap_cons, cat_cv, if_pos hv, lay0, List.length_append, List.length_cons] at ih ⊢
        simp only [List.length_nil]
        omega
      · simp only [lg_sl, List.map_cons, List.flatMap_cons, cat_cv, if_neg hv, lay0, List.length_append, List.length_cons] at ih ⊢
        simp only [List.length_nil]
        omega
  have hl := lv_entry (Vs.map (cv G)) (n := q.2.2.2.1) (by rw [hlen]; omega)
  rw [lg_entry_eq]
  rw [← asc_lay0 G n] at hl
  have hts0 := atoms_spec (ws := wsM q) B.pre
  refine k p e _ s m _ below meth c s.heap [] 0 0 (nC T h + mc) _ _ ⟨B.exec, B.bytes, hml, by rw [← hc]; exact findClass_of_methodNamed B.named, (name_of_methodNamed B.named B.method).1, fun w hw => hts0 w (List.mem_cons_of_mem _ hw), hK, hSW, hgb, Nat.le_refl _, Nat.le_refl _⟩ hH va_S.rf hl (Nat.le_of_eq (Nat.zero_add _)) (Nat.le_of_eq (Nat.zero_add _)) (Nat.le_refl _) hkk ?_
  intro H locs cells slots h' ls pc v hH' hS' hc1 hc2 hnk hQ hok
  refine W.widen (k := mc) (n := ms) hc1 hc2 ?_
  have fin : ∀ t : State, t.heap = H → s.WarmedH t.vm → QcW G T h mc Q (Vs.map (cv G)).toArray s (.returned (v.map (cv G))) t := fun t ht hW =>
    ⟨⟨v, h', rfl, hQ, by rw [ht]; exact hH', hnk⟩, hS'.F ht⟩
  have hx := B.exec
  have hb := B.bytes
  have hr := B.returns
  have hlk := B.notSynchronized
  cases v with
  | none => exact W.vret hx hb (by rw [hr]; exact hok.2) (fun t ht hW => fin t ht hW) hS'.2.2 hok.1
  | some w =>
    cases w with
    | int x =>
      obtain ⟨h1, ty, h2, h3⟩ := hok
      exact W.zret hx hb (by rw [hr]; exact h2) h3 (fun t ht hW => fin t ht hW) hS'.2.2 h1
    | long x =>
      obtain ⟨h1, h2⟩ := hok
      exact W.lret hx hb (by rw [hr]; exact h2) (fun t ht hW => fin t ht hW) hS'.2.2 h1
    | ref a =>
      obtain ⟨h1, n, h2⟩ := hok
      exact W.aret hx hb (by rw [hr]; exact h2) (Or.inl ⟨n, rfl⟩) (Or.inr ⟨_, rfl⟩) (fun t ht hW => fin t ht hW) hS'.2.2 h1
    | float _ => exact hok.elim
    | double _ => exact hok.elim
    | null => exact hok.elim
    | retAddr _ => exact hok.elim
end
section
/-! one lemma an instruction: stack, locals, numbers, branches -/
section OPS
variable {G : GG} {T : TT} {q : MM} {d pc : Nat} {L : LL} {st : List Value} {h : AH} {bc bs : Nat} {Q : QQ}
theorem A_iconst {n : Int} (v : Int32) (hv : Int32.ofInt n = v) (hd : decode q.2.2.1 pc = .ok (.iconst n, 1)) (k : Att G T q d (pc + 1) L (.int v :: st) h bc bs Q) : Att G T q d pc L st h bc bs Q := by
  intro p e R s m args below meth c H locs cells slots KK Zs ls hC hH hS hl hc1 hc2 hk1 hk2 hE
  exact lv_iconst hC.1 hC.2.1 hd hv (k p e R s m args below meth c H locs cells slots KK Zs ls hC hH hS hl hc1 hc2 hk1 hk2 hE)
theorem A_bipush {n : Int} (v : Int32) (hv : (Int8.ofInt n).toInt32 = v) (hd : decode q.2.2.1 pc = .ok (.bipush n, 2)) (k : Att G T q d (pc + 2) L (.int v :: st) h bc bs Q) : Att G T q d pc L st h bc bs Q := by
  intro p e R s m args below meth c H locs cells slots KK Zs ls hC hH hS hl hc1 hc2 hk1 hk2 hE
  exact lv_bipush hC.1 hC.2.1 hd hv (k p e R s m args below meth c H locs cells slots KK Zs ls hC hH hS hl hc1 hc2 hk1 hk2 hE)
theorem A_sipush {n : Int} (v : Int32) (hv : (Int16.ofInt n).toInt32 = v) (hd : decode q.2.2.1 pc = .ok (.sipush n, 3)) (k : Att G T q d (pc + 3) L (.int v :: st) h bc bs Q) : Att G T q d pc L st h bc bs Q := by
  intro p e R s m args below meth c H locs cells slots KK Zs ls hC hH hS hl hc1 hc2 hk1 hk2 hE
  exact lv_sipush hC.1 hC.2.1 hd hv (k p e R s m args below meth c H locs cells slots KK Zs ls hC hH hS hl hc1 hc2 hk1 hk2 hE)
theorem A_lconst {n : Fin 2} (v : Int64) (hv : Int64.ofNat (n : Nat) = v) (hd : decode q.2.2.1 pc = .ok (.lconst n, 1)) (k : Att G T q d (pc + 1) L (.long v :: st) h bc bs Q) : Att G T q d pc L st h bc bs Q := by
  intro p e R s m args below meth c H locs cells slots KK Zs ls hC hH hS hl hc1 hc2 hk1 hk2 hE
  exact lv_lconst hC.1 hC.2.1 hd hv (k p e R s m args below meth c H locs cells slots KK Zs ls hC hH hS hl hc1 hc2 hk1 hk2 hE)
theorem A_iload_n {k0 : Fin 4} {x : Int32} (hd : decode q.2.2.1 pc = .ok (.iload_n k0, 1)) (hx : nth L (k0 : Nat) = some (.int x)) (k : Att G T q d (pc + 1) L (.int x :: st) h bc bs Q) : Att G T q d pc L st h bc bs Q := by
  intro p e R s m args below meth c H locs cells slots KK Zs ls hC hH hS hl hc1 hc2 hk1 hk2 hE
  exact lv_iload_n hC.1 hC.2.1 hd rfl (lr_get hl hx) (k p e R s m args below meth c H locs cells slots KK Zs ls hC hH hS hl hc1 hc2 hk1 hk2 hE)
theorem A_iload {i : Nat} {x : Int32} (hd : decode q.2.2.1 pc = .ok (.iload i, 2)) (hx : nth L i = some (.int x)) (k : Att G T q d (pc + 2) L (.int x :: st) h bc bs Q) : Att G T q d pc L st h bc bs Q := by
  intro p e R s m args below meth c H locs cells slots KK Zs ls hC hH hS hl hc1 hc2 hk1 hk2 hE
  exact lv_iload hC.1 hC.2.1 hd (lr_get hl hx) (k p e R s m args below meth c H locs cells slots KK Zs ls hC hH hS hl hc1 hc2 hk1 hk2 hE)
theorem A_lload_n {k0 : Fin 4} {x : Int64} (hd : decode q.2.2.1 pc = .ok (.lload_n k0, 1)) (hx : nth L (k0 : Nat) = some (.long x)) (k : Att G T q d (pc + 1) L (.long x :: st) h bc bs Q) : Att G T q d pc L st h bc bs Q := by
  intro p e R s m args below meth c H locs cells slots KK Zs ls hC hH hS hl hc1 hc2 hk1 hk2 hE
  exact lv_lload_n hC.1 hC.2.1 hd rfl (lr_get hl hx) (k p e R s m args below meth c H locs cells slots KK Zs ls hC hH hS hl hc1 hc2 hk1 hk2 hE)
theorem A_lload {i : Nat} {x : Int64} (hd : decode q.2.2.1 pc = .ok (.lload i, 2)) (hx : nth L i = some (.long x)) (k : Att G T q d (pc + 2) L (.long x :: st) h bc bs Q) : Att G T q d pc L st h bc bs Q := by
  intro p e R s m args below meth c H locs cells slots KK Zs ls hC hH hS hl hc1 hc2 hk1 hk2 hE
  exact lv_lload hC.1 hC.2.1 hd (lr_get hl hx) (k p e R s m args below meth c H locs cells slots KK Zs ls hC hH hS hl hc1 hc2 hk1 hk2 hE)
theorem A_aload_n {k0 : Fin 4} {x : Nat} (hd : decode q.2.2.1 pc = .ok (.aload_n k0, 1)) (hx : nth L (k0 : Nat) = some (.ref x)) (k : Att G T q d (pc + 1) L (.ref x :: st) h bc bs Q) : Att G T q d pc L st h bc bs Q := by
  intro p e R s m args below meth c H locs cells slots KK Zs ls hC hH hS hl hc1 hc2 hk1 hk2 hE
  exact lv_aload_n hC.1 hC.2.1 hd rfl (lr_get hl hx) (k p e R s m args below meth c H locs cells slots KK Zs ls hC hH hS hl hc1 hc2 hk1 hk2 hE)
theorem A_aload {i : Nat} {x : Nat} (hd : decode q.2.2.1 pc = .ok (.aload i, 2)) (hx : nth L i = some (.ref x)) (k : Att G T q d (pc + 2) L (.ref x :: st) h bc bs Q) : Att G T q d pc L st h bc bs Q := by
  intro p e R s m args below meth c H locs cells slots KK Zs ls hC hH hS hl hc1 hc2 hk1 hk2 hE
  exact lv_aload hC.1 hC.2.1 hd (lr_get hl hx) (k p e R s m args below meth c H locs cells slots KK Zs ls hC hH hS hl hc1 hc2 hk1 hk2 hE)
theorem A_istore_n {k0 : Fin 4} {x : Int32} (L2 : LL) (hd : decode q.2.2.1 pc = .ok (.istore_n k0, 1)) (hi : (k0 : Nat) < q.2.2.2.1) (ho : okb L k0 = true) (hL : sth L k0 (some (.int x)) = L2) (k : Att G T q d (pc + 1) L2 st h bc bs Q) : Att G T q d pc L (.int x :: st) h bc bs Q := by
  subst hL
  intro p e R s m args below meth c H locs cells slots KK Zs ls hC hH hS hl hc1 hc2 hk1 hk2 hE
  exact lv_istore_n hC.1 hC.2.1 hd rfl hl hi rfl (fun ls2 hl2 => k p e R s m args below meth c H locs cells slots KK Zs ls2 hC hH hS (lr_st1 hl2 ho) hc1 hc2 hk1 hk2 hE)
theorem A_istore {i : Nat} {x : Int32} (L2 : LL) (hd : decode q.2.2.1 pc = .ok (.istore i, 2)) (hi : i < q.2.2.2.1) (ho : okb L i = true) (hL : sth L i (some (.int x)) = L2) (k : Att G T q d (pc + 2) L2 st h bc bs Q) : Att G T q d pc L (.int x :: st) h bc bs Q := by
  subst hL
  intro p e R s m args below meth c H locs cells slots KK Zs ls hC hH hS hl hc1 hc2 hk1 hk2 hE
  exact lv_istore hC.1 hC.2.1 hd hl hi rfl (fun ls2 hl2 => k p e R s m args below meth c H locs cells slots KK Zs ls2 hC hH hS (lr_st1 hl2 ho) hc1 hc2 hk1 hk2 hE)
theorem A_astore_n {k0 : Fin 4} {x : Nat} (L2 : LL) (hd : decode q.2.2.1 pc = .ok (.astore_n k0, 1)) (hi : (k0 : Nat) < q.2.2.2.1) (ho : okb L k0 = true) (hL : sth L k0 (some (.ref x)) = L2) (k : Att G T q d (pc + 1) L2 st h bc bs Q) : Att G T q d pc L (.ref x :: st) h bc bs Q := by
  subst hL
  intro p e R s m args below meth c H locs cells slots KK Zs ls hC hH hS hl hc1 hc2 hk1 hk2 hE
  exact lv_astore_n hC.1 hC.2.1 hd rfl hl hi rfl (fun ls2 hl2 => k p e R s m args below meth c H locs cells slots KK Zs ls2 hC hH hS (lr_st1 hl2 ho) hc1 hc2 hk1 hk2 hE)
theorem A_astore {i : Nat} {x : Nat} (L2 : LL) (hd : decode q.2.2.1 pc = .ok (.astore i, 2)) (hi : i < q.2.2.2.1) (ho : okb L i = true) (hL : sth L i (some (.ref x)) = L2) (k : Att G T q d (pc + 2) L2 st h bc bs Q) : Att G T q d pc L (.ref x :: st) h bc bs Q := by
  subst hL
  intro p e R s m args below meth c H locs cells slots KK Zs ls hC hH hS hl hc1 hc2 hk1 hk2 hE
  exact lv_astore hC.1 hC.2.1 hd hl hi rfl (fun ls2 hl2 => k p e R s m args below meth c H locs cells slots KK Zs ls2 hC hH hS (lr_st1 hl2 ho) hc1 hc2 hk1 hk2 hE)
theorem A_lstore_n {k0 : Fin 4} {x : Int64} (L2 : LL) (hd : decode q.2.2.1 pc = .ok (.lstore_n k0, 1)) (hi : (k0 : Nat) + 1 < q.2.2.2.1) (ho : okb L k0 = true) (hL : sth (sth L (k0 + 1) none) k0 (some (.long x)) = L2) (k : Att G T q d (pc + 1) L2 st h bc bs Q) : Att G T q d pc L (.long x :: st) h bc bs Q := by
  subst hL
  intro p e R s m args below meth c H locs cells slots KK Zs ls hC hH hS hl hc1 hc2 hk1 hk2 hE
  exact lv_lstore_n hC.1 hC.2.1 hd rfl hl hi rfl (fun ls2 hl2 => k p e R s m args below meth c H locs cells slots KK Zs ls2 hC hH hS (lr_st2 hl2 ho) hc1 hc2 hk1 hk2 hE)
theorem A_lstore {i : Nat} {x : Int64} (L2 : LL) (hd : decode q.2.2.1 pc = .ok (.lstore i, 2)) (hi : i + 1 < q.2.2.2.1) (ho : okb L i = true) (hL : sth (sth L (i + 1) none) i (some (.long x)) = L2) (k : Att G T q d (pc + 2) L2 st h bc bs Q) : Att G T q d pc L (.long x :: st) h bc bs Q := by
  subst hL
  intro p e R s m args below meth c H locs cells slots KK Zs ls hC hH hS hl hc1 hc2 hk1 hk2 hE
  exact lv_lstore hC.1 hC.2.1 hd hl hi rfl (fun ls2 hl2 => k p e R s m args below meth c H locs cells slots KK Zs ls2 hC hH hS (lr_st2 hl2 ho) hc1 hc2 hk1 hk2 hE)
theorem A_iinc {i : Nat} {n : Int} {x : Int32} (w : Int32) (L2 : LL) (hd : decode q.2.2.1 pc = .ok (.iinc i n, 3)) (hx : nth L i = some (.int x)) (hw : Int32.ofInt n = w) (hi : i < q.2.2.2.1) (ho : okb L i = true) (hL : sth L i (some (.int (x + w))) = L2) (k : Att G T q d (pc + 3) L2 st h bc bs Q) : Att G T q d pc L st h bc bs Q := by
  subst hL
  subst hw
  intro p e R s m args below meth c H locs cells slots KK Zs ls hC hH hS hl hc1 hc2 hk1 hk2 hE
  obtain ⟨k9, hk9⟩ := List.getElem?_of_mem (asc_in (G := G) (i := 0) hx)
  rw [Nat.zero_add] at hk9
  exact lv_iinc hC.1 hC.2.1 hd hl hk9 rfl hi rfl (fun ls2 hl2 => k p e R s m args below meth c H locs cells slots KK Zs ls2 hC hH hS (lr_st1 hl2 ho) hc1 hc2 hk1 hk2 hE)
theorem A_iadd {x y : Int32} (hd : decode q.2.2.1 pc = .ok (.iadd, 1)) (k : Att G T q d (pc + 1) L (.int (x + y) :: st) h bc bs Q) : Att G T q d pc L (.int y :: .int x :: st) h bc bs Q := by
  intro p e R s m args below meth c H locs cells slots KK Zs ls hC hH hS hl hc1 hc2 hk1 hk2 hE
  exact lv_iadd hC.1 hC.2.1 hd (k p e R s m args below meth c H locs cells slots KK Zs ls hC hH hS hl hc1 hc2 hk1 hk2 hE)
theorem A_isub {x y : Int32} (hd : decode q.2.2.1 pc = .ok (.isub, 1)) (k : Att G T q d (pc + 1) L (.int (x - y) :: st) h bc bs Q) : Att G T q d pc L (.int y :: .int x :: st) h bc bs Q := by
  intro p e R s m args below meth c H locs cells slots KK Zs ls hC hH hS hl hc1 hc2 hk1 hk2 hE
  exact lv_isub hC.1 hC.2.1 hd (k p e R s m args below meth c H locs cells slots KK Zs ls hC hH hS hl hc1 hc2 hk1 hk2 hE)
theorem A_imul {x y : Int32} (hd : decode q.2.2.1 pc = .ok (.imul, 1)) (k : Att G T q d (pc + 1) L (.int (x * y) :: st) h bc bs Q) : Att G T q d pc L (.int y :: .int x :: st) h bc bs Q := by
  intro p e R s m args below meth c H locs cells slots KK Zs ls hC hH hS hl hc1 hc2 hk1 hk2 hE
  exact lv_imul hC.1 hC.2.1 hd (k p e R s m args below meth c H locs cells slots KK Zs ls hC hH hS hl hc1 hc2 hk1 hk2 hE)
theorem A_iand {x y : Int32} (hd : decode q.2.2.1 pc = .ok (.iand, 1)) (k : Att G T q d (pc + 1) L (.int (x &&& y) :: st) h bc bs Q) : Att G T q d pc L (.int y :: .int x :: st) h bc bs Q := by
  intro p e R s m args below meth c H locs cells slots KK Zs ls hC hH hS hl hc1 hc2 hk1 hk2 hE
  exact lv_iand hC.1 hC.2.1 hd (k p e R s m args below meth c H locs cells slots KK Zs ls hC hH hS hl hc1 hc2 hk1 hk2 hE)
theorem A_ior {x y : Int32} (hd : decode q.2.2.1 pc = .ok (.ior, 1)) (k : Att G T q d (pc + 1) L (.int (x ||| y) :: st) h bc bs Q) : Att G T q d pc L (.int y :: .int x :: st) h bc bs Q := by
  intro p e R s m args below meth c H locs cells slots KK Zs ls hC hH hS hl hc1 hc2 hk1 hk2 hE
  exact lv_ior hC.1 hC.2.1 hd (k p e R s m args below meth c H locs cells slots KK Zs ls hC hH hS hl hc1 hc2 hk1 hk2 hE)
theorem A_ishl {x y : Int32} (hd : decode q.2.2.1 pc = .ok (.ishl, 1)) (k : Att G T q d (pc + 1) L (.int (x <<< (y &&& 31)) :: st) h bc bs Q) : Att G T q d pc L (.int y :: .int x :: st) h bc bs Q := by
  intro p e R s m args below meth c H locs cells slots KK Zs ls hC hH hS hl hc1 hc2 hk1 hk2 hE
  exact lv_ishl hC.1 hC.2.1 hd (k p e R s m args below meth c H locs cells slots KK Zs ls hC hH hS hl hc1 hc2 hk1 hk2 hE)
theorem A_ishr {x y : Int32} (hd : decode q.2.2.1 pc = .ok (.ishr, 1)) (k : Att G T q d (pc + 1) L (.int (x >>> (y &&& 31)) :: st) h bc bs Q) : Att G T q d pc L (.int y :: .int x :: st) h bc bs Q := by
  intro p e R s m args below meth c H locs cells slots KK Zs ls hC hH hS hl hc1 hc2 hk1 hk2 hE
  exact lv_ishr hC.1 hC.2.1 hd (k p e R s m args below meth c H locs cells slots KK Zs ls hC hH hS hl hc1 hc2 hk1 hk2 hE)
theorem A_iushr {x y : Int32} (hd : decode q.2.2.1 pc = .ok (.iushr, 1)) (k : Att G T q d (pc + 1) L (.int ((x.toUInt32 >>> (y.toUInt32 &&& Int32.toUInt32 31)).toInt32) :: st) h bc bs Q) : Att G T q d pc L (.int y :: .int x :: st) h bc bs Q := by
  intro p e R s m args below meth c H locs cells slots KK Zs ls hC hH hS hl hc1 hc2 hk1 hk2 hE
  exact lv_iushr hC.1 hC.2.1 hd rfl (k p e R s m args below meth c H locs cells slots KK Zs ls hC hH hS hl hc1 hc2 hk1 hk2 hE)
theorem A_ineg {x : Int32} (hd : decode q.2.2.1 pc = .ok (.ineg, 1)) (k : Att G T q d (pc + 1) L (.int (-x) :: st) h bc bs Q) : Att G T q d pc L (.int x :: st) h bc bs Q := by
  intro p e R s m args below meth c H locs cells slots KK Zs ls hC hH hS hl hc1 hc2 hk1 hk2 hE
  exact lv_ineg hC.1 hC.2.1 hd (k p e R s m args below meth c H locs cells slots KK Zs ls hC hH hS hl hc1 hc2 hk1 hk2 hE)
theorem A_idiv {x y : Int32} (hy : ¬ y = 0) (hd : decode q.2.2.1 pc = .ok (.idiv, 1)) (k : Att G T q d (pc + 1) L (.int (x / y) :: st) h bc bs Q) : Att G T q d pc L (.int y :: .int x :: st) h bc bs Q := by
  intro p e R s m args below meth c H locs cells slots KK Zs ls hC hH hS hl hc1 hc2 hk1 hk2 hE
  exact lv_idiv hC.1 hC.2.1 hd hy (k p e R s m args below meth c H locs cells slots KK Zs ls hC hH hS hl hc1 hc2 hk1 hk2 hE)
theorem A_irem {x y : Int32} (hy : ¬ y = 0) (hd : decode q.2.2.1 pc = .ok (.irem, 1)) (k : Att G T q d (pc + 1) L (.int (x - x / y * y) :: st) h bc bs Q) : Att G T q d pc L (.int y :: .int x :: st) h bc bs Q := by
  intro p e R s m args below meth c H locs cells slots KK Zs ls hC hH hS hl hc1 hc2 hk1 hk2 hE
  exact lv_irem hC.1 hC.2.1 hd hy (k p e R s m args below meth c H locs cells slots KK Zs ls hC hH hS hl hc1 hc2 hk1 hk2 hE)
theorem A_ladd {x y : Int64} (hd : decode q.2.2.1 pc = .ok (.ladd, 1)) (k : Att G T q d (pc + 1) L (.long (x + y) :: st) h bc bs Q) : Att G T q d pc L (.long y :: .long x :: st) h bc bs Q := by
  intro p e R s m args below meth c H locs cells slots KK Zs ls hC hH hS hl hc1 hc2 hk1 hk2 hE
  exact lv_ladd hC.1 hC.2.1 hd (k p e R s m args below meth c H locs cells slots KK Zs ls hC hH hS hl hc1 hc2 hk1 hk2 hE)
theorem A_lmul {x y : Int64} (hd : decode q.2.2.1 pc = .ok (.lmul, 1)) (k : Att G T q d (pc + 1) L (.long (x * y) :: st) h bc bs Q) : Att G T q d pc L (.long y :: .long x :: st) h bc bs Q := by
  intro p e R s m args below meth c H locs cells slots KK Zs ls hC hH hS hl hc1 hc2 hk1 hk2 hE
  exact lv_lmul hC.1 hC.2.1 hd (k p e R s m args below meth c H locs cells slots KK Zs ls hC hH hS hl hc1 hc2 hk1 hk2 hE)
theorem A_ldiv {x y : Int64} (hy : ¬ y = 0) (hd : decode q.2.2.1 pc = .ok (.ldiv, 1)) (k : Att G T q d (pc + 1) L (.long (x / y) :: st) h bc bs Q) : Att G T q d pc L (.long y :: .long x :: st) h bc bs Q := by
  intro p e R s m args below meth c H locs cells slots KK Zs ls hC hH hS hl hc1 hc2 hk1 hk2 hE
  exact lv_ldiv hC.1 hC.2.1 hd hy (k p e R s m args below meth c H locs cells slots KK Zs ls hC hH hS hl hc1 hc2 hk1 hk2 hE)
theorem A_lrem {x y : Int64} (hy : ¬ y = 0) (hd : decode q.2.2.1 pc = .ok (.lrem, 1)) (k : Att G T q d (pc + 1) L (.long (x - x / y * y) :: st) h bc bs Q) : Att G T q d pc L (.long y :: .long x :: st) h bc bs Q := by
  intro p e R s m args below meth c H locs cells slots KK Zs ls hC hH hS hl hc1 hc2 hk1 hk2 hE
  exact lv_lrem hC.1 hC.2.1 hd hy (k p e R s m args below meth c H locs cells slots KK Zs ls hC hH hS hl hc1 hc2 hk1 hk2 hE)
theorem A_lcmp {x y : Int64} (hd : decode q.2.2.1 pc = .ok (.lcmp, 1)) (k : Att G T q d (pc + 1) L (.int (lg_cmp x y) :: st) h bc bs Q) : Att G T q d pc L (.long y :: .long x :: st) h bc bs Q := by
  intro p e R s m args below meth c H locs cells slots KK Zs ls hC hH hS hl hc1 hc2 hk1 hk2 hE
  exact W.lcmp hC.1 hC.2.1 hd (k p e R s m args below meth c H locs cells slots KK Zs ls hC hH hS hl hc1 hc2 hk1 hk2 hE)
theorem A_i2l {x : Int32} (hd : decode q.2.2.1 pc = .ok (.i2l, 1)) (k : Att G T q d (pc + 1) L (.long x.toInt64 :: st) h bc bs Q) : Att G T q d pc L (.int x :: st) h bc bs Q := by
  intro p e R s m args below meth c H locs cells slots KK Zs ls hC hH hS hl hc1 hc2 hk1 hk2 hE
  exact lv_i2l hC.1 hC.2.1 hd rfl (k p e R s m args below meth c H locs cells slots KK Zs ls hC hH hS hl hc1 hc2 hk1 hk2 hE)
theorem A_i2b {x : Int32} (hd : decode q.2.2.1 pc = .ok (.i2b, 1)) (k : Att G T q d (pc + 1) L (.int x.toInt8.toInt32 :: st) h bc bs Q) : Att G T q d pc L (.int x :: st) h bc bs Q := by
  intro p e R s m args below meth c H locs cells slots KK Zs ls hC hH hS hl hc1 hc2 hk1 hk2 hE
  exact lv_i2b hC.1 hC.2.1 hd rfl (k p e R s m args below meth c H locs cells slots KK Zs ls hC hH hS hl hc1 hc2 hk1 hk2 hE)
theorem A_i2s {x : Int32} (hd : decode q.2.2.1 pc = .ok (.i2s, 1)) (k : Att G T q d (pc + 1) L (.int x.toInt16.toInt32 :: st) h bc bs Q) : Att G T q d pc L (.int x :: st) h bc bs Q := by
  intro p e R s m args below meth c H locs cells slots KK Zs ls hC hH hS hl hc1 hc2 hk1 hk2 hE
  exact lv_i2s hC.1 hC.2.1 hd rfl (k p e R s m args below meth c H locs cells slots KK Zs ls hC hH hS hl hc1 hc2 hk1 hk2 hE)
theorem A_dup {v : Value} (hv : v.category = 1) (hd : decode q.2.2.1 pc = .ok (.dup, 1)) (k : Att G T q d (pc + 1) L (v :: v :: st) h bc bs Q) : Att G T q d pc L (v :: st) h bc bs Q := by
  intro p e R s m args below meth c H locs cells slots KK Zs ls hC hH hS hl hc1 hc2 hk1 hk2 hE
  exact lv_dup hC.1 hC.2.1 hd (by rw [cat_cv]; exact hv) (k p e R s m args below meth c H locs cells slots KK Zs ls hC hH hS hl hc1 hc2 hk1 hk2 hE)
theorem A_dup2 {v w : Value} (hv : v.category = 1) (hw : w.category = 1) (hd : decode q.2.2.1 pc = .ok (.dup2, 1)) (k : Att G T q d (pc + 1) L (v :: w :: v :: w :: st) h bc bs Q) : Att G T q d pc L (v :: w :: st) h bc bs Q := by
  intro p e R s m args below meth c H locs cells slots KK Zs ls hC hH hS hl hc1 hc2 hk1 hk2 hE
  exact lv_dup2_11 hC.1 hC.2.1 hd (by rw [cat_cv]; exact hv) (by rw [cat_cv]; exact hw) (k p e R s m args below meth c H locs cells slots KK Zs ls hC hH hS hl hc1 hc2 hk1 hk2 hE)
theorem A_pop {v : Value} (hv : v.category = 1) (hd : decode q.2.2.1 pc = .ok (.pop, 1)) (k : Att G T q d (pc + 1) L st h bc bs Q) : Att G T q d pc L (v :: st) h bc bs Q := by
  intro p e R s m args below meth c H locs cells slots KK Zs ls hC hH hS hl hc1 hc2 hk1 hk2 hE
  exact lv_pop hC.1 hC.2.1 hd (by rw [cat_cv]; exact hv) (k p e R s m args below meth c H locs cells slots KK Zs ls hC hH hS hl hc1 hc2 hk1 hk2 hE)
theorem A_if_eq {x : Int32} {off : Int} (tgt : Nat) (hd : decode q.2.2.1 pc = .ok (.ifCond .eq off, 3)) (ht : (pc : Int) + off = (tgt : Int)) (kt : x = 0 → Att G T q d tgt L st h bc bs Q) (kf : ¬ x = 0 → Att G T q d (pc + 3) L st h bc bs Q) : Att G T q d pc L (.int x :: st) h bc bs Q := by
  intro p e R s m args below meth c H locs cells slots KK Zs ls hC hH hS hl hc1 hc2 hk1 hk2 hE
  exact lv_if_eq hC.1 hC.2.1 hd ht (fun z => kt z p e R s m args below meth c H locs cells slots KK Zs ls hC hH hS hl hc1 hc2 hk1 hk2 hE) (fun z => kf z p e R s m args below meth c H locs cells slots KK Zs ls hC hH hS hl hc1 hc2 hk1 hk2 hE)
theorem A_icmp_eq {x y : Int32} {off : Int} (tgt : Nat) (hd : decode q.2.2.1 pc = .ok (.if_icmp .eq off, 3)) (ht : (pc : Int) + off = (tgt : Int)) (kt : x = y → Att G T q d tgt L st h bc bs Q) (kf : ¬ x = y → Att G T q d (pc + 3) L st h bc bs Q) : Att G T q d pc L (.int y :: .int x :: st) h bc bs Q := by
  intro p e R s m args below meth c H locs cells slots KK Zs ls hC hH hS hl hc1 hc2 hk1 hk2 hE
  exact lv_icmp_eq hC.1 hC.2.1 hd ht (fun z => kt z p e R s m args below meth c H locs cells slots KK Zs ls hC hH hS hl hc1 hc2 hk1 hk2 hE) (fun z => kf z p e R s m args below meth c H locs cells slots KK Zs ls hC hH hS hl hc1 hc2 hk1 hk2 hE)
theorem A_if_ne {x : Int32} {off : Int} (tgt : Nat) (hd : decode q.2.2.1 pc = .ok (.ifCond .ne off, 3)) (ht : (pc : Int) + off = (tgt : Int)) (kt : ¬ x = 0 → Att G T q d tgt L st h bc bs Q) (kf : x = 0 → Att G T q d (pc + 3) L st h bc bs Q) : Att G T q d pc L (.int x :: st) h bc bs Q := by
  intro p e R s m args below meth c H locs cells slots KK Zs ls hC hH hS hl hc1 hc2 hk1 hk2 hE
  exact lv_if_ne hC.1 hC.2.1 hd ht (fun z => kt z p e R s m args below meth c H locs cells slots KK Zs ls hC hH hS hl hc1 hc2 hk1 hk2 hE) (fun z => kf z p e R s m args below meth c H locs cells slots KK Zs ls hC hH hS hl hc1 hc2 hk1 hk2 hE)
theorem A_icmp_ne {x y : Int32} {off : Int} (tgt : Nat) (hd : decode q.2.2.1 pc = .ok (.if_icmp .ne off, 3)) (ht : (pc : Int) + off = (tgt : Int)) (kt : ¬ x = y → Att G T q d tgt L st h bc bs Q) (kf : x = y → Att G T q d (pc + 3) L st h bc bs Q) : Att G T q d pc L (.int y :: .int x :: st) h bc bs Q := by
  intro p e R s m args below meth c H locs cells slots KK Zs ls hC hH hS hl hc1 hc2 hk1 hk2 hE
  exact lv_icmp_ne hC.1 hC.2.1 hd ht (fun z => kt z p e R s m args below meth c H locs cells slots KK Zs ls hC hH hS hl hc1 hc2 hk1 hk2 hE) (fun z => kf z p e R s m args below meth c H locs cells slots KK Zs ls hC hH hS hl hc1 hc2 hk1 hk2 hE)
theorem A_if_lt {x : Int32} {off : Int} (tgt : Nat) (hd : decode q.2.2.1 pc = .ok (.ifCond .lt off, 3)) (ht : (pc : Int) + off = (tgt : Int)) (kt : x < 0 → Att G T q d tgt L st h bc bs Q) (kf : ¬ x < 0 → Att G T q d (pc + 3) L st h bc bs Q) : Att G T q d pc L (.int x :: st) h bc bs Q := by
  intro p e R s m args below meth c H locs cells slots KK Zs ls hC hH hS hl hc1 hc2 hk1 hk2 hE
  exact lv_if_lt hC.1 hC.2.1 hd ht (fun z => kt z p e R s m args below meth c H locs cells slots KK Zs ls hC hH hS hl hc1 hc2 hk1 hk2 hE) (fun z => kf z p e R s m args below meth c H locs cells slots KK Zs ls hC hH hS hl hc1 hc2 hk1 hk2 hE)
theorem A_icmp_lt {x y : Int32} {off : Int} (tgt : Nat) (hd : decode q.2.2.1 pc = .ok (.if_icmp .lt off, 3)) (ht : (pc : Int) + off = (tgt : Int)) (kt : x < y → Att G T q d tgt L st h bc bs Q) (kf : ¬ x < y → Att G T q d (pc + 3) L st h bc bs Q) : Att G T q d pc L (.int y :: .int x :: st) h bc bs Q := by
  intro p e R s m args below meth c H locs cells slots KK Zs ls hC hH hS hl hc1 hc2 hk1 hk2 hE
  exact lv_icmp_lt hC.1 hC.2.1 hd ht (fun z => kt z p e R s m args below meth c H locs cells slots KK Zs ls hC hH hS hl hc1 hc2 hk1 hk2 hE) (fun z => kf z p e R s m args below meth c H locs cells slots KK Zs ls hC hH hS hl hc1 hc2 hk1 hk2 hE)
theorem A_if_ge {x : Int32} {off : Int} (tgt : Nat) (hd : decode q.2.2.1 pc = .ok (.ifCond .ge off, 3)) (ht : (pc : Int) + off = (tgt : Int)) (kt : 0 ≤ x → Att G T q d tgt L st h bc bs Q) (kf : ¬ 0 ≤ x → Att G T q d (pc + 3) L st h bc bs Q) : Att G T q d pc L (.int x :: st) h bc bs Q := by
  intro p e R s m args below meth c H locs cells slots KK Zs ls hC hH hS hl hc1 hc2 hk1 hk2 hE
  exact lv_if_ge hC.1 hC.2.1 hd ht (fun z => kt z p e R s m args below meth c H locs cells slots KK Zs ls hC hH hS hl hc1 hc2 hk1 hk2 hE) (fun z => kf z p e R s m args below meth c H locs cells slots KK Zs ls hC hH hS hl hc1 hc2 hk1 hk2 hE)
theorem A_icmp_ge {x y : Int32} {off : Int} (tgt : Nat) (hd : decode q.2.2.1 pc = .ok (.if_icmp .ge off, 3)) (ht : (pc : Int) + off = (tgt : Int)) (kt : y ≤ x → Att G T q d tgt L st h bc bs Q) (kf : ¬ y ≤ x → Att G T q d (pc + 3) L st h bc bs Q) : Att G T q d pc L (.int y :: .int x :: st) h bc bs Q := by
  intro p e R s m args below meth c H locs cells slots KK Zs ls hC hH hS hl hc1 hc2 hk1 hk2 hE
  exact lv_icmp_ge hC.1 hC.2.1 hd ht (fun z => kt z p e R s m args below meth c H locs cells slots KK Zs ls hC hH hS hl hc1 hc2 hk1 hk2 hE) (fun z => kf z p e R s m args below meth c H locs cells slots KK Zs ls hC hH hS hl hc1 hc2 hk1 hk2 hE)
theorem A_if_gt {x : Int32} {off : Int} (tgt : Nat) (hd : decode q.2.2.1 pc = .ok (.ifCond .gt off, 3)) (ht : (pc : Int) + off = (tgt : Int)) (kt : 0 < x → Att G T q d tgt L st h bc bs Q) (kf : ¬ 0 < x → Att G T q d (pc + 3) L st h bc bs Q) : Att G T q d pc L (.int x :: st) h bc bs Q := by
  intro p e R s m args below meth c H locs cells slots KK Zs ls hC hH hS hl hc1 hc2 hk1 hk2 hE
  exact lv_if_gt hC.1 hC.2.1 hd ht (fun z => kt z p e R s m args below meth c H locs cells slots KK Zs ls hC hH hS hl hc1 hc2 hk1 hk2 hE) (fun z => kf z p e R s m args below meth c H locs cells slots KK Zs ls hC hH hS hl hc1 hc2 hk1 hk2 hE)
theorem A_icmp_gt {x y : Int32} {off : Int} (tgt : Nat) (hd : decode q.2.2.1 pc = .ok (.if_icmp .gt off, 3)) (ht : (pc : Int) + off = (tgt : Int)) (kt : y < x → Att G T q d tgt L st h bc bs Q) (kf : ¬ y < x → Att G T q d (pc + 3) L st h bc bs Q) : Att G T q d pc L (.int y :: .int x :: st) h bc bs Q := by
  intro p e R s m args below meth c H locs cells slots KK Zs ls hC hH hS hl hc1 hc2 hk1 hk2 hE
  exact lv_icmp_gt hC.1 hC.2.1 hd ht (fun z => kt z p e R s m args below meth c H locs cells slots KK Zs ls hC hH hS hl hc1 hc2 hk1 hk2 hE) (fun z => kf z p e R s m args below meth c H locs cells slots KK Zs ls hC hH hS hl hc1 hc2 hk1 hk2 hE)
theorem A_if_le {x : Int32} {off : Int} (tgt : Nat) (hd : decode q.2.2.1 pc = .ok (.ifCond .le off, 3)) (ht : (pc : Int) + off = (tgt : Int)) (kt : x ≤ 0 → Att G T q d tgt L st h bc bs Q) (kf : ¬ x ≤ 0 → Att G T q d (pc + 3) L st h bc bs Q) : Att G T q d pc L (.int x :: st) h bc bs Q := by
  intro p e R s m args below meth c H locs cells slots KK Zs ls hC hH hS hl hc1 hc2 hk1 hk2 hE
  exact lv_if_le hC.1 hC.2.1 hd ht (fun z => kt z p e R s m args below meth c H locs cells slots KK Zs ls hC hH hS hl hc1 hc2 hk1 hk2 hE) (fun z => kf z p e R s m args below meth c H locs cells slots KK Zs ls hC hH hS hl hc1 hc2 hk1 hk2 hE)
theorem A_icmp_le {x y : Int32} {off : Int} (tgt : Nat) (hd : decode q.2.2.1 pc = .ok (.if_icmp .le off, 3)) (ht : (pc : Int) + off = (tgt : Int)) (kt : x ≤ y → Att G T q d tgt L st h bc bs Q) (kf : ¬ x ≤ y → Att G T q d (pc + 3) L st h bc bs Q) : Att G T q d pc L (.int y :: .int x :: st) h bc bs Q := by
  intro p e R s m args below meth c H locs cells slots KK Zs ls hC hH hS hl hc1 hc2 hk1 hk2 hE
  exact lv_icmp_le hC.1 hC.2.1 hd ht (fun z => kt z p e R s m args below meth c H locs cells slots KK Zs ls hC hH hS hl hc1 hc2 hk1 hk2 hE) (fun z => kf z p e R s m args below meth c H locs cells slots KK Zs ls hC hH hS hl hc1 hc2 hk1 hk2 hE)
theorem A_goto {off : Int} (tgt : Nat) (hd : decode q.2.2.1 pc = .ok (.goto off, 3)) (ht : (pc : Int) + off = (tgt : Int)) (k : Att G T q d tgt L st h bc bs Q) : Att G T q d pc L st h bc bs Q := by
  intro p e R s m args below meth c H locs cells slots KK Zs ls hC hH hS hl hc1 hc2 hk1 hk2 hE
  exact lv_goto hC.1 hC.2.1 hd ht (k p e R s m args below meth c H locs cells slots KK Zs ls hC hH hS hl hc1 hc2 hk1 hk2 hE)
theorem A_tsO {dflt lo hi : Int} {offs : Array Int} {len : Nat} {x : Int32} (tgt : Nat) (hd : decode q.2.2.1 pc = .ok (.tableswitch dflt lo hi offs, len)) (hx : x.toInt < lo ∨ hi < x.toInt) (ht : (pc : Int) + dflt = (tgt : Int)) (k : Att G T q d tgt L st h bc bs Q) : Att G T q d pc L (.int x :: st) h bc bs Q := by
  intro p e R s m args below meth c H locs cells slots KK Zs ls hC hH hS hl hc1 hc2 hk1 hk2 hE
  exact lv_tableOut hC.1 hC.2.1 hd hx ht (k p e R s m args below meth c H locs cells slots KK Zs ls hC hH hS hl hc1 hc2 hk1 hk2 hE)
theorem A_tsI {dflt lo hi off : Int} {offs : Array Int} {len : Nat} {x : Int32} (tgt : Nat) (hd : decode q.2.2.1 pc = .ok (.tableswitch dflt lo hi offs, len)) (h1 : ¬ x.toInt < lo) (h2 : ¬ hi < x.toInt) (ho : offs[(x.toInt - lo).toNat]? = some off) (ht : (pc : Int) + off = (tgt : Int)) (k : Att G T q d tgt L st h bc bs Q) : Att G T q d pc L (.int x :: st) h bc bs Q := by
  intro p e R s m args below meth c H locs cells slots KK Zs ls hC hH hS hl hc1 hc2 hk1 hk2 hE
  exact lv_tableIn hC.1 hC.2.1 hd h1 h2 ho ht (k p e R s m args below meth c H locs cells slots KK Zs ls hC hH hS hl hc1 hc2 hk1 hk2 hE)
theorem A_ldc {i : Nat} (v : Int32) (hd : decode q.2.2.1 pc = .ok (.ldc i, 2)) (hw : Cond.constant q.1 i v ∈ tblG) (k : Att G T q d (pc + 2) L (.int v :: st) h bc bs Q) : Att G T q d pc L st h bc bs Q := by
  intro p e R s m args below meth c H locs cells slots KK Zs ls hC hH hS hl hc1 hc2 hk1 hk2 hE
  exact lv_ldc hC.1 hC.2.1 hC.2.2.2.1 (hC.2.2.2.2.2.1 _ hw) hd (k p e R s m args below meth c H locs cells slots KK Zs ls hC hH hS hl hc1 hc2 hk1 hk2 hE)
theorem A_ldcw {i : Nat} (v : Int32) (hd : decode q.2.2.1 pc = .ok (.ldc_w i, 3)) (hw : Cond.constant q.1 i v ∈ tblG) (k : Att G T q d (pc + 3) L (.int v :: st) h bc bs Q) : Att G T q d pc L st h bc bs Q := by
  intro p e R s m args below meth c H locs cells slots KK Zs ls hC hH hS hl hc1 hc2 hk1 hk2 hE
  exact lv_ldcw hC.1 hC.2.1 hC.2.2.2.1 (hC.2.2.2.2.2.1 _ hw) hd (k p e R s m args below meth c H locs cells slots KK Zs ls hC hH hS hl hc1 hc2 hk1 hk2 hE)
theorem A_ldc2 {i : Nat} (v : Int64) (hd : decode q.2.2.1 pc = .ok (.ldc2_w i, 3)) (hw : Cond.constantLong q.1 i v ∈ tblG) (k : Att G T q d (pc + 3) L (.long v :: st) h bc bs Q) : Att G T q d pc L st h bc bs Q := by
  intro p e R s m args below meth c H locs cells slots KK Zs ls hC hH hS hl hc1 hc2 hk1 hk2 hE
  exact lv_ldc2 hC.1 hC.2.1 hC.2.2.2.1 (hC.2.2.2.2.2.1 _ hw) hd (k p e R s m args below meth c H locs cells slots KK Zs ls hC hH hS hl hc1 hc2 hk1 hk2 hE)
theorem A_iret {x : Int32} {ty : FieldType} (hd : decode q.2.2.1 pc = .ok (.ireturn, 1)) (hr : q.2.2.2.2 = some ty) (hn : narrow ty (.int x) = .int x) (k : Q (some (.int x)) h) : Att G T q d pc L [.int x] h bc bs Q := by
  intro p e R s m args below meth c H locs cells slots KK Zs ls hC hH hS hl hc1 hc2 hk1 hk2 hE
  exact hE H locs cells slots h ls pc (some (.int x)) hH hS (by omega) (by omega) (by omega) k ⟨hd, ty, hr, hn⟩
theorem A_lret {x : Int64} (hd : decode q.2.2.1 pc = .ok (.lreturn, 1)) (hr : q.2.2.2.2 = some .long) (k : Q (some (.long x)) h) : Att G T q d pc L [.long x] h bc bs Q := by
  intro p e R s m args below meth c H locs cells slots KK Zs ls hC hH hS hl hc1 hc2 hk1 hk2 hE
  exact hE H locs cells slots h ls pc (some (.long x)) hH hS (by omega) (by omega) (by omega) k ⟨hd, hr⟩
theorem A_aret {x : Nat} {n : String} (hd : decode q.2.2.1 pc = .ok (.areturn, 1)) (hr : q.2.2.2.2 = some (.object n)) (k : Q (some (.ref x)) h) : Att G T q d pc L [.ref x] h bc bs Q := by
  intro p e R s m args below meth c H locs cells slots KK Zs ls hC hH hS hl hc1 hc2 hk1 hk2 hE
  exact hE H locs cells slots h ls pc (some (.ref x)) hH hS (by omega) (by omega) (by omega) k ⟨hd, n, hr⟩
theorem A_ret (hd : decode q.2.2.1 pc = .ok (.return_, 1)) (hr : q.2.2.2.2 = none) (k : Q none h) : Att G T q d pc L [] h bc bs Q := by
  intro p e R s m args below meth c H locs cells slots KK Zs ls hC hH hS hl hc1 hc2 hk1 hk2 hE
  exact hE H locs cells slots h ls pc none hH hS (by omega) (by omega) (by omega) k ⟨hd, hr⟩
end OPS
end
section
/-! fields and arrays -/
theorem vpV_entO {G : GG} {T : TT} {h : AH} {a c k : Nat} (hk : k < nfD c) : vp_V (entO G T h a c) k = cv G (fV T h a (fty c k) k) := by
  unfold vp_V entO
  rw [List.getD_eq_getElem?_getD, List.getElem?_map, List.getElem?_range hk]
  rfl
theorem entO_at {G : GG} {T : TT} {h : AH} {a c k : Nat} (hk : k < nfD c) : (entO G T h a c)[k]? = some (cv G (fV T h a (fty c k) k)) := by
  unfold entO
  rw [List.getElem?_map, List.getElem?_range hk]
  rfl
theorem ga_lt {G : GG} {a : Nat} (h : a < 1000000) : ga G a = gb G + a := by unfold ga; rw [if_pos h]
/-- a class's table and its words -/
def CLK (c : Nat) (C : String) (F : u_T) : Prop := clL[c]? = some (C, F, nfD c) ∧ c < 100 ∧ (∀ w ∈ u_ws C F (nfD c), w ∈ tblG) ∧ (∃ ty0 : Nat → FieldType, ∀ k, k < nfD c → parseFieldDescriptor (F k).2.2.1 = some (ty0 k)) ∧ ∀ a, a < nfD c → ∀ b, b < nfD c → a ≠ b → (F a).2.1 ≠ (F b).2.1
/-- a field's place in the pool of the class own names field k of class c -/
def FOK (own : String) (idx c k : Nat) : Prop := ∃ (C : String) (F : u_T) (ref : String), CLK c C F ∧ k < nfD c ∧ Cond.fieldLink own idx ref (F k).2.1 (F k).2.2.1 ∈ tblG ∧ (ref = (F k).1 ∨ Cond.sameField ref (F k).1 (F k).2.1 (F k).2.2.1 ∈ tblG)
/-- its type, whether it is final, its declarer -/
def FTY (c k : Nat) (ty : FieldType) (fin : Bool) (dec : String) : Prop := ∃ (C : String) (F : u_T) (N : Nat), clL[c]? = some (C, F, N) ∧ parseFieldDescriptor (F k).2.2.1 = some ty ∧ (F k).2.2.2 = fin ∧ (F k).1 = dec
theorem FOK.same {own : String} {idx c k : Nat} {s : State} {args : Array Value} {ref : String} {F : u_T} (hts : ∀ w ∈ tblG, w.before args s = true) (h : ref = (F k).1 ∨ Cond.sameField ref (F k).1 (F k).2.1 (F k).2.2.1 ∈ tblG) :
    ∀ x, s.fieldFound? (F k).1 (F k).2.1 (F k).2.2.1 = some x → s.fieldFound? ref (F k).2.1 (F k).2.2.1 = some x := by
  intro x hx
  rcases h with h | h
  · rw [h]; exact hx
  · exact u_same (hts _ h) x hx
section HOPS
variable {G : GG} {T : TT} {q : MM} {d pc : Nat} {L : LL} {st : List Value} {h : AH} {bc bs : Nat} {Q : QQ}
theorem A_get {a idx c k : Nat} {v : Value} (hd : decode q.2.2.1 pc = .ok (.getfield idx, 3)) (hF : FOK q.1 idx c k) (ha : vA T h a) (hs : (rS T h a).1 = c) (hv : fV T h a (fty c k) k = v) (kk : Att G T q d (pc + 3) L (v :: st) h bc bs Q) : Att G T q d pc L (.ref a :: st) h bc bs Q := by
  intro p e R s m args below meth cc H locs cells slots KK Zs ls hC hH hS hl hc1 hc2 hk1 hk2 hE
  obtain ⟨C, F, ref, ⟨hcl, hc100, hin, -, -⟩, hk, hlk, hsm⟩ := hF
  have hvA : a < nC T h := ha
  have hga : ga G a = gb G + a := ga_lt (by omega)
  show W p G.1 e R s m args below meth cc H locs cells slots Zs (F0 m pc ls (.ref (ga G a) :: st.map (cv G)))
  rw [hga]
  have hP := hH.P ha
  rw [ent_o hs hc100] at hP
  refine va_get hC.1 hC.2.1 hC.2.2.2.2.2.1 hin hC.2.2.2.1 hC.2.2.2.2.2.2.1 hP 0 rfl hcl k hk (hC.2.2.2.2.2.1 _ hlk) (FOK.same (own := C) (idx := idx) (c := c) hC.2.2.2.2.2.1 hsm) (v := cv G v) ?_ hd (kk p e R s m args below meth cc H locs cells slots KK Zs ls hC hH hS hl hc1 hc2 hk1 hk2 hE)
  rw [entO_at hk, hv]
/-- a store into a field, final or not, seen from the abstract heap -/
theorem put_core {a idx c k : Nat} {v : Value} {ty : FieldType} {fin : Bool} {h' : AH} (hd : decode q.2.2.1 pc = .ok (.putfield idx, 3)) (hF : FOK q.1 idx c k) (hT : FTY c k ty fin q.1 ∨ (fin = false ∧ ∃ dec, FTY c k ty fin dec)) (hini : fin = true → q.2.1.name = "<init>") (ha : vA T h a) (hs : (rS T h a).1 = c)
    (hn : narrow ty (cv G v) = cv G v) (hfit : fits ty (cv G v) = true) (hnc : nC T h' = nC T h) (hsh : ∀ j, rS T h' j = rS T h j) (hoth : ∀ j, j ≠ a → ent G T h' j = ent G T h j) (hnew : ∀ j, j < nfD c → fV T h' a (fty c j) j = if j = k then v else fV T h a (fty c j) j)
    (kk : Att G T q d (pc + 3) L st h' bc bs Q) : Att G T q d pc L (v :: .ref a :: st) h bc bs Q := by
  intro p e R s m args below meth cc H locs cells slots KK Zs ls hC hH hS hl hc1 hc2 hk1 hk2 hE
  obtain ⟨C, F, ref, ⟨hcl, hc100, hin, ⟨ty0, hty⟩, hnm⟩, hk, hlk, hsm⟩ := hF
  have hvA : a < nC T h := ha
  have hga : ga G a = gb G + a := ga_lt (by omega)
  show W p G.1 e R s m args below meth cc H locs cells slots Zs (F0 m pc ls (cv G v :: .ref (ga G a) :: st.map (cv G)))
  rw [hga]
  have hts := hC.2.2.2.2.2.1
  have hown := hC.2.2.2.1
  have hK := hC.2.2.2.2.2.2.1
  have hap := va_apart (own := q.1) hts hin ty0 hty hnm hK hcl
  have hat := hH.2 a ha
  rw [ent_o hs hc100] at hat
  obtain ⟨r, h1, cell, q1, q2, q3, q4⟩ := hat
  have hr : r = (C, F, nfD c) := Option.some.inj (h1.symm.trans hcl)
  subst hr
  obtain ⟨hSl, hfc, kC, hkC, hkind⟩ := hK.1 c _ hcl
  obtain ⟨cf, kf, fi, f, hi, hsl⟩ := hSl k hk
  have hst := (u_facts hfc hkC (u_lays hts hin hk) hi).1
  have hlay := hts _ (hin _ (u_in_lay hk))
  have same := FOK.same (own := C) (idx := idx) (c := c) hts hsm
  have dT : ∃ dec, FTY c k ty fin dec := by
    rcases hT with h | ⟨-, h⟩
    · exact ⟨_, h⟩
    · exact h
  have hd2 : parseFieldDescriptor (F k).2.2.1 = some ty ∧ (F k).2.2.2 = fin := by
    obtain ⟨dec, C2, F2, N2, e1, e2, e3, -⟩ := dT
    have : (C2, F2, N2) = (C, F, nfD c) := Option.some.inj (e1.symm.trans hcl)
    cases this
    exact ⟨e2, e3⟩
  have fit := u_fits hfc hkC hkind (u_lays hts hin hk) hi hd2.1 hn hfit
  have go : ∀ H' : Heap, H'[gb G + a]? = some (cell.setSlot f.slot (cv G v)) → H'.size = H.size → (∀ x : Nat, x ≠ gb G + a → H'[x]? = H[x]?) →
      W p G.1 e R s m args below meth cc H' (locs ++ [⟨gb G + a, f.slot⟩]) cells slots Zs { (F0 m pc ls (cv G v :: .ref (gb G + a) :: st.map (cv G))) with pc := pc + 3, stack := st.map (cv G) } := by
    intro H' e1 e2 e3
    rw [hsl] at e1
    refine kk p e R s m args below meth cc H' _ cells slots KK Zs ls hC (hH.upd hnc hoth e2 e3 ?_) (hS.put e2 e3 (Nat.le_add_right _ _)) hl hc1 hc2 (by rw [hnc]; exact hk1) hk2 hE
    rw [ent_o (by rw [hsh]; exact hs) hc100]
    refine ⟨_, hcl, t_OB.to (V := updV (vp_V (entO G T h a c)) k (cv G v)) ⟨_, e1, q2, q3, t_set q4 hap hk (cv G v)⟩ (fun j hj => ?_)⟩
    rw [vpV_entO hj, hnew j hj]
    by_cases hjk : j = k
    · rw [if_pos hjk]; simp [updV, hjk]
    · rw [if_neg hjk]; simp only [updV, if_neg hjk]; exact vpV_entO hj
  cases fin with
  | false =>
    have hl2 : (Cond.lays C (F k).1 (F k).2.1 (F k).2.2.1).before args s = true := by
      unfold u_lay at hlay
      rwa [if_neg (by rw [hd2.2]; decide)] at hlay
    have h6 := u_store hfc hkC hkind hl2 hi hd2.1 hn hfit
    exact W.putK hC.1 hC.2.1 (f := f) ⟨hown, hts _ hlk, ⟨_, _, _, same _ hi⟩, hst⟩ (by rw [q2]; exact h6) q1 q3 (by rw [hsl]; exact k2_hasslot (q4 k hk)) rfl rfl hd (fun H' e1 e2 e3 => go H' e1 e2 e3)
  | true =>
    have hl2 : (Cond.laysFinal C (F k).1 (F k).2.1 (F k).2.2.1).before args s = true := by
      unfold u_lay at hlay
      rwa [if_pos hd2.2] at hlay
    have hdecl : (F k).1 = q.1 := by
      rcases hT with ⟨C2, F2, N2, e1, -, -, e4⟩ | ⟨e, -⟩
      · have : (C2, F2, N2) = (C, F, nfD c) := Option.some.inj (e1.symm.trans hcl)
        cases this
        exact e4
      · cases e
    have hcf : m.cls = cf := by
      obtain ⟨_, _, c', _, _, _, -, -, hf', -, -, -, hown2, -⟩ := Cond.laysFinal_spec hl2
      have e1 : c' = cf := by have := hi.symm.trans hf'; simp at this; exact this.1.symm
      rw [hdecl] at hown2
      rw [← e1]; exact Option.some.inj (hown.symm.trans hown2)
    exact W.putFinK hC.1 hC.2.1 hown (hts _ hlk) (same _ hi) hst hcf (by rw [hC.2.2.2.2.1]; exact hini rfl) (by rw [q2]; exact fit) q1 q3 (by rw [hsl]; exact k2_hasslot (q4 k hk)) rfl rfl hd (fun H' e1 e2 e3 => go H' e1 e2 e3)
end HOPS
end
section
theorem nthN_lt {b : Nat} : ∀ (l : List Nat) (k z : Nat), (∀ x ∈ l, x < b) → z < b → nthN l k z < b := by
  intro l
  induction l with
  | nil => intro k z _ hz; exact hz
  | cons a l ih =>
    intro k z h hz
    cases k with
    | zero => exact h a List.mem_cons_self
    | succ k => exact ih k z (fun x hx => h x (List.mem_cons_of_mem _ hx)) hz
theorem nfD_lt (c : Nat) : nfD c < 1000 := nthN_lt nfL c 0 (by decide) (by decide)
theorem ofN_inj {j k : Nat} (hj : j < 2147483648) (hk : k < 2147483648) : Int32.ofNat j = Int32.ofNat k ↔ j = k := nI_eq hj hk
theorem ofN_of {i : Int32} (h : 0 ≤ i.toInt) : Int32.ofNat i.toNatClampNeg = i := by
  have h1 : ¬ i < 0 := by rw [Int32.lt_iff_toInt_lt]; simpa using h
  obtain ⟨j, hj, rfl⟩ := nI_of h1
  rw [nI_clamp hj]; rfl
theorem clamp_lt {i : Int32} : i.toNatClampNeg < 2147483648 := by
  have h := Int32.toInt_lt i
  show i.toInt.toNat < _
  omega
abbrev inb (i : Int32) (n : Nat) : Prop := 0 ≤ i.toInt ∧ i.toInt < n
theorem inb_in {i : Int32} {n : Nat} (h : inb i n) : vp_in i n := vp_in_iff.mpr h
theorem ent_congr {G : GG} {T : TT} {h h' : AH} {j : Nat} (e1 : h'.1 j = h.1 j) (e2 : h'.2.1 j = h.2.1 j) (e3 : ∀ k, rR T h' j k = rR T h j k) (e4 : rS T h' j = rS T h j) : ent G T h' j = ent G T h j := by
  have f1 : ∀ c, entO G T h' j c = entO G T h j c := by
    intro c
    unfold entO
    refine List.map_congr_left (fun k _ => ?_)
    unfold fV
    rw [e1, e2, e3]
  have f2 : entI h' j = entI h j := by unfold entI; rw [e1]
  have f3 : entR G T h' j = entR G T h j := by unfold entR; funext k; rw [e3]
  unfold ent
  rw [e4, f1, f2, f3]
section HOPS2
variable {G : GG} {T : TT} {q : MM} {d pc : Nat} {L : LL} {st : List Value} {h : AH} {bc bs : Nat} {Q : QQ}
theorem A_putI {a idx c k : Nat} {x : Int32} {ty : FieldType} {fin : Bool} (hd : decode q.2.2.1 pc = .ok (.putfield idx, 3)) (hF : FOK q.1 idx c k) (hT : FTY c k ty fin q.1 ∨ (fin = false ∧ ∃ dec, FTY c k ty fin dec)) (hini : fin = true → q.2.1.name = "<init>") (h0 : fty c k = 0) (ha : vA T h a) (hs : (rS T h a).1 = c)
    (hn : narrow ty (.int x) = .int x) (hfit : fits ty (.int x) = true) (kk : Att G T q d (pc + 3) L st (wI h a (Int32.ofNat k) x) bc bs Q) : Att G T q d pc L (.int x :: .ref a :: st) h bc bs Q := by
  have hk : k < nfD c := by obtain ⟨C, F, ref, -, hk, -⟩ := hF; exact hk
  have hkk := nfD_lt c
  refine put_core (h' := wI h a (Int32.ofNat k) x) hd hF hT hini ha hs hn hfit rfl (fun _ => rfl) (fun j hj => ent_congr (by simp [wI, hj]) rfl (fun _ => rfl) rfl) (fun j hj => ?_) kk
  by_cases hjk : j = k
  · rw [if_pos hjk, hjk, h0]
    simp [fV, wI, up]
  · rw [if_neg hjk]
    unfold fV
    have : ¬ Int32.ofNat j = Int32.ofNat k := fun e => hjk ((ofN_inj (by omega) (by omega)).mp e)
    cases hf : fty c j with
    | zero => simp [wI, up, this]
    | succ t => cases t <;> rfl
theorem A_putL {a idx c k : Nat} {x : Int64} (hd : decode q.2.2.1 pc = .ok (.putfield idx, 3)) (hF : FOK q.1 idx c k) (hT : FTY c k .long false q.1) (h0 : fty c k = 2) (ha : vA T h a) (hs : (rS T h a).1 = c)
    (kk : Att G T q d (pc + 3) L st (wL h a (Int32.ofNat k) x) bc bs Q) : Att G T q d pc L (.long x :: .ref a :: st) h bc bs Q := by
  have hk : k < nfD c := by obtain ⟨C, F, ref, -, hk, -⟩ := hF; exact hk
  have hkk := nfD_lt c
  refine put_core (h' := wL h a (Int32.ofNat k) x) hd hF (Or.inl hT) (fun z => by cases z) ha hs rfl rfl rfl (fun _ => rfl) (fun j hj => ent_congr rfl (by simp [wL, hj]) (fun _ => rfl) rfl) (fun j hj => ?_) kk
  by_cases hjk : j = k
  · rw [if_pos hjk, hjk, h0]
    simp [fV, wL, upL]
  · rw [if_neg hjk]
    unfold fV
    have : ¬ Int32.ofNat j = Int32.ofNat k := fun e => hjk ((ofN_inj (by omega) (by omega)).mp e)
    cases hf : fty c j with
    | zero => rfl
    | succ t => cases t with
      | zero => rfl
      | succ t => simp [wL, upL, this]
theorem rR_wR_ne {h : AH} {a k x j : Nat} (hj : j ≠ a) (i : Nat) : rR T (wR h a k x) j i = rR T h j i := by
  unfold rR wR
  cases T.1 j i with
  | some v => rfl
  | none => simp [hj]
theorem rR_wR {h : AH} {a k x : Nat} (hdyn : T.1 a k = none) (i : Nat) : rR T (wR h a k x) a i = if i = k then x else rR T h a i := by
  unfold rR wR
  by_cases hik : i = k
  · rw [hik, hdyn]; simp [upR]
  · cases T.1 a i with
    | some v => simp [hik]
    | none => simp [upR, hik]
theorem A_putR {a idx c k b : Nat} {ty : FieldType} {fin : Bool} (hd : decode q.2.2.1 pc = .ok (.putfield idx, 3)) (hF : FOK q.1 idx c k) (hT : FTY c k ty fin q.1 ∨ (fin = false ∧ ∃ dec, FTY c k ty fin dec)) (hini : fin = true → q.2.1.name = "<init>") (h0 : fty c k = 1) (ha : vA T h a) (hs : (rS T h a).1 = c) (hdyn : T.1 a k = none)
    (hn : ∀ z, narrow ty (.ref z) = .ref z) (hfit : ∀ z, fits ty (.ref z) = true) (kk : Att G T q d (pc + 3) L st (wR h a k (b + 1)) bc bs Q) : Att G T q d pc L (.ref b :: .ref a :: st) h bc bs Q := by
  refine put_core (h' := wR h a k (b + 1)) hd hF hT hini ha hs (hn _) (hfit _) rfl (fun _ => rfl) (fun j hj => ent_congr rfl rfl (rR_wR_ne hj) rfl) (fun j hj => ?_) kk
  unfold fV
  by_cases hjk : j = k
  · rw [if_pos hjk, hjk, h0]
    simp only [rR_wR hdyn, if_pos]
    rfl
  · rw [if_neg hjk]
    cases hf : fty c j with
    | zero => rfl
    | succ t => cases t with
      | zero => simp only [rR_wR hdyn, if_neg hjk]
      | succ t => rfl
theorem A_iald {a n : Nat} {i : Int32} (hd : decode q.2.2.1 pc = .ok (.iaload, 1)) (ha : vA T h a) (hs : rS T h a = (100, n)) (hi : inb i n) (kk : Att G T q d (pc + 1) L (.int (h.1 a i) :: st) h bc bs Q) : Att G T q d pc L (.int i :: .ref a :: st) h bc bs Q := by
  intro p e R s m args below meth cc H locs cells slots KK Zs ls hC hH hS hl hc1 hc2 hk1 hk2 hE
  have hvA : a < nC T h := ha
  have hga : ga G a = gb G + a := ga_lt (by omega)
  show W p G.1 e R s m args below meth cc H locs cells slots Zs (F0 m pc ls (.int i :: .ref (ga G a) :: st.map (cv G)))
  rw [hga]
  have hP := hH.P ha
  rw [ent_i hs] at hP
  refine va_iald hC.1 hC.2.1 hC.2.2.2.2.2.2.1 hP 0 0 rfl rfl (inb_in hi) hd ?_
  have e1 : entI h a i.toNatClampNeg = h.1 a i := by
    unfold entI
    rw [if_pos clamp_lt, ofN_of hi.1]
  rw [e1]
  exact kk p e R s m args below meth cc H locs cells slots KK Zs ls hC hH hS hl hc1 hc2 hk1 hk2 hE
theorem A_iast {a n : Nat} {i x : Int32} (hd : decode q.2.2.1 pc = .ok (.iastore, 1)) (ha : vA T h a) (hs : rS T h a = (100, n)) (hi : inb i n) (kk : Att G T q d (pc + 1) L st (wI h a i x) bc bs Q) : Att G T q d pc L (.int x :: .int i :: .ref a :: st) h bc bs Q := by
  intro p e R s m args below meth cc H locs cells slots KK Zs ls hC hH hS hl hc1 hc2 hk1 hk2 hE
  have hvA : a < nC T h := ha
  have hga : ga G a = gb G + a := ga_lt (by omega)
  show W p G.1 e R s m args below meth cc H locs cells slots Zs (F0 m pc ls (.int x :: .int i :: .ref (ga G a) :: st.map (cv G)))
  rw [hga]
  have hat := hH.2 a ha
  rw [ent_i hs] at hat
  have hKt := (hC.2.2.2.2.2.2.1.2 0 _ rfl).1
  refine W.iast hC.1 hC.2.1 hat (hKt n (fun j => .int (entI h a j))) (fun z => by cases z) (by show ¬ (i < 0 ∨ (arrV _ _ _).slots.size ≤ _); rw [arrV_size]; exact inb_in hi) rfl rfl hd fun H1 e1 z oq => ?_
  refine kk p e R s m args below meth cc H1 _ cells slots KK Zs ls hC (hH.upd rfl (fun j hj => ent_congr (by simp [wI, hj]) rfl (fun _ => rfl) rfl) z oq ?_) (hS.put z oq (Nat.le_add_right _ _)) hl hc1 hc2 hk1 hk2 hE
  have hs' : rS T (wI h a i x) a = (100, n) := hs
  rw [ent_i hs']
  show H1[gb G + a]? = some (vp_cell _ _)
  rw [e1, vp_cell_i, vp_cell_i, arrV_store]
  congr 2
  funext j
  by_cases hj : j = i.toNatClampNeg
  · subst hj
    simp only [updV, if_pos]
    unfold entI
    rw [if_pos clamp_lt, ofN_of hi.1]
    simp [wI, up]
  · simp only [updV, if_neg hj]
    unfold entI
    by_cases hj2 : j < 2147483648
    · have : ¬ Int32.ofNat j = i := fun e9 => hj ((ofN_inj hj2 clamp_lt).mp (e9.trans (ofN_of hi.1).symm))
      rw [if_pos hj2, if_pos hj2]
      simp [wI, up, this]
    · rw [if_neg hj2, if_neg hj2]
theorem tyG_ref {t : Nat} (ht : t < 3) : ∃ C : String, (tyG G)[t + 1]? = some (G.2.2.1 (t + 1), .object C) := by
  match t, ht with
  | 0, _ => exact ⟨_, rfl⟩
  | 1, _ => exact ⟨_, rfl⟩
  | 2, _ => exact ⟨_, rfl⟩
theorem A_aald {a t n b : Nat} {i : Int32} (hd : decode q.2.2.1 pc = .ok (.aaload, 1)) (ht : t < 3) (ha : vA T h a) (hs : rS T h a = (101 + t, n)) (hi : inb i n) (hv : rR T h a i.toNatClampNeg = b + 1) (kk : Att G T q d (pc + 1) L (.ref b :: st) h bc bs Q) : Att G T q d pc L (.int i :: .ref a :: st) h bc bs Q := by
  intro p e R s m args below meth cc H locs cells slots KK Zs ls hC hH hS hl hc1 hc2 hk1 hk2 hE
  have hvA : a < nC T h := ha
  have hga : ga G a = gb G + a := ga_lt (by omega)
  show W p G.1 e R s m args below meth cc H locs cells slots Zs (F0 m pc ls (.int i :: .ref (ga G a) :: st.map (cv G)))
  rw [hga]
  have hP := hH.P ha
  rw [ent_r hs] at hP
  obtain ⟨C, hC9⟩ := tyG_ref (G := G) ht
  refine va_aldq hC.1 hC.2.1 hC.2.2.2.2.2.2.1 hP 0 (t + 1) rfl hC9 (inb_in hi) hd ?_
  have e1 : va_rf (entR G T h a i.toNatClampNeg) = cv G (.ref b) := by
    unfold entR
    rw [oR_rf, hv]
    rfl
  rw [e1]
  exact kk p e R s m args below meth cc H locs cells slots KK Zs ls hC hH hS hl hc1 hc2 hk1 hk2 hE
theorem A_alenI {a n : Nat} (hd : decode q.2.2.1 pc = .ok (.arraylength, 1)) (ha : vA T h a) (hs : rS T h a = (100, n)) (kk : Att G T q d (pc + 1) L (.int (Int32.ofNat n) :: st) h bc bs Q) : Att G T q d pc L (.ref a :: st) h bc bs Q := by
  intro p e R s m args below meth cc H locs cells slots KK Zs ls hC hH hS hl hc1 hc2 hk1 hk2 hE
  have hvA : a < nC T h := ha
  have hga : ga G a = gb G + a := ga_lt (by omega)
  show W p G.1 e R s m args below meth cc H locs cells slots Zs (F0 m pc ls (.ref (ga G a) :: st.map (cv G)))
  rw [hga]
  have hP := hH.P ha
  rw [ent_i hs] at hP
  exact va_alen hC.1 hC.2.1 hC.2.2.2.2.2.2.1 hP 0 0 rfl rfl rfl hd (kk p e R s m args below meth cc H locs cells slots KK Zs ls hC hH hS hl hc1 hc2 hk1 hk2 hE)
theorem A_alenR {a t n : Nat} (hd : decode q.2.2.1 pc = .ok (.arraylength, 1)) (ht : t < 3) (ha : vA T h a) (hs : rS T h a = (101 + t, n)) (kk : Att G T q d (pc + 1) L (.int (Int32.ofNat n) :: st) h bc bs Q) : Att G T q d pc L (.ref a :: st) h bc bs Q := by
  intro p e R s m args below meth cc H locs cells slots KK Zs ls hC hH hS hl hc1 hc2 hk1 hk2 hE
  have hvA : a < nC T h := ha
  have hga : ga G a = gb G + a := ga_lt (by omega)
  show W p G.1 e R s m args below meth cc H locs cells slots Zs (F0 m pc ls (.ref (ga G a) :: st.map (cv G)))
  rw [hga]
  have hP := hH.P ha
  rw [ent_r hs] at hP
  obtain ⟨C, hC9⟩ := tyG_ref (G := G) ht
  exact va_alen hC.1 hC.2.1 hC.2.2.2.2.2.2.1 hP 0 (t + 1) rfl hC9 rfl hd (kk p e R s m args below meth cc H locs cells slots KK Zs ls hC hH hS hl hc1 hc2 hk1 hk2 hE)
end HOPS2
end
section
/-! new cells, references stored, strings, the script, copies -/
theorem rR_wN_ne {T : TT} {h : AH} {s : Nat × Nat} {j : Nat} (hj : j ≠ nC T h) (i : Nat) : rR T (wN T h s) j i = rR T h j i := by
  unfold rR wN
  cases T.1 j i with
  | some v => rfl
  | none => simp [hj]
theorem rR_wN {T : TT} {h : AH} {s : Nat × Nat} (hT : ∀ k, T.1 (nC T h) k = none) (i : Nat) : rR T (wN T h s) (nC T h) i = 0 := by
  unfold rR wN
  rw [hT]
  simp
theorem rS_wN_ne {T : TT} {h : AH} {s : Nat × Nat} {j : Nat} (hj : j ≠ nC T h) : rS T (wN T h s) j = rS T h j := by
  unfold rS wN
  cases T.2.1 j with
  | some v => rfl
  | none => simp [hj]
theorem rS_wN {T : TT} {h : AH} {s : Nat × Nat} (hT : T.2.1 (nC T h) = none) : rS T (wN T h s) (nC T h) = s := by
  unfold rS wN
  rw [hT]
  simp
theorem nC_wN {T : TT} {h : AH} {s : Nat × Nat} : nC T (wN T h s) = nC T h + 1 := by
  show T.2.2 + (h.2.2.2.2 + 1) = T.2.2 + h.2.2.2.2 + 1
  omega
theorem ent_wN_lt {G : GG} {T : TT} {h : AH} {s : Nat × Nat} {j : Nat} (hj : j < nC T h) : ent G T (wN T h s) j = ent G T h j := by
  have : j ≠ nC T h := by omega
  exact ent_congr (by simp [wN, this]) (by simp [wN, this]) (rR_wN_ne this) (rS_wN_ne this)
/-- the next address is free of the fixed part -/
def frN (T : TT) (h : AH) : Prop := T.2.1 (nC T h) = none ∧ ∀ k, T.1 (nC T h) k = none
section HOPS3
variable {G : GG} {T : TT} {q : MM} {d pc : Nat} {L : LL} {st : List Value} {h : AH} {bc bs : Nat} {Q : QQ}
theorem A_new {idx c : Nat} {C : String} {F : u_T} (ty : Nat → FieldType) (hd : decode q.2.2.1 pc = .ok (.new idx, 3)) (hF : CLK c C F) (hty : ∀ k, k < nfD c → parseFieldDescriptor (F k).2.2.1 = some (ty k)) (hz : ∀ k, k < nfD c → defaultValue (ty k) = (match fty c k with | 0 => Value.int 0 | 1 => .null | _ => .long 0)) (hcl : Cond.classLink q.1 idx C ∈ tblG) (hins : Cond.instantiable C (nfD c) ∈ tblG) (hini : Cond.initialized C ∈ tblG) (hfr : frN T h)
    (kk : Att G T q d (pc + 3) L (.ref (nC T h) :: st) (wN T h (c, nfD c)) bc bs Q) : Att G T q d pc L st h (bc + 1) (bs + nfD c) Q := by
  intro p e R s m args below meth cc H locs cells slots KK Zs ls hC hH hS hl hc1 hc2 hk1 hk2 hE
  obtain ⟨hcl0, hc100, hin, -, -⟩ := hF
  have hts := hC.2.2.2.2.2.1
  have hKn := hC.2.2.2.2.2.2.1.1 c _ hcl0
  have hga : ga G (nC T h) = gb G + nC T h := ga_lt (by omega)
  have hA : ∀ a, s.heap.size ≤ a → fr G a := fun a h9 => Nat.le_trans hC.2.2.2.2.2.2.2.2.1 h9
  refine W.newcK hC.1 hC.2.1 hC.2.2.2.1 (hts _ hcl) (hts _ hins) (hts _ hini) rfl hd (by omega) (by omega) hKn.2.1 hH.1 fun H1 kC hkC e1 z1 o1 => ?_
  have hnew := kk p e R s m args below meth cc H1 locs (cells + 1) (slots + nfD c) KK Zs ls hC
  rw [← hga]
  refine hnew (hH.push nC_wN (fun j hj => ent_wN_lt hj) (by rw [z1, hH.1]) (fun a ha => o1 a (by rw [← hH.1]; exact ha)) ?_) ⟨by rw [z1, ← hH.1]; exact Nat.le_succ_of_le hS.1, fun a h1 h2 => (o1 a (by rw [← hH.1]; exact Nat.lt_of_lt_of_le h1 hS.1)).trans (hS.2.1 a h1 h2), hS.2.2⟩ hl (by omega) (by omega) (by rw [nC_wN]; omega) hk2 hE
  rw [ent_o (c := c) (by rw [rS_wN hfr.1]) hc100]
  refine ⟨_, hcl0, (u_born ty hts hin hKn hkC e1 hty).to (fun k hk => ?_)⟩
  rw [vpV_entO hk, hz k hk]
  unfold fV
  rw [rR_wN hfr.2]
  cases fty c k with
  | zero => simp [wN, cv]
  | succ t => cases t with
    | zero => rfl
    | succ t => simp [wN, cv]
theorem A_newa {n : Int32} {N : Nat} (hd : decode q.2.2.1 pc = .ok (.newarray .int, 2)) (hN : n = Int32.ofNat N) (hN2 : N < 100000) (hw : Cond.arrayClass .int ∈ tblG) (hfr : frN T h) (kk : Att G T q d (pc + 2) L (.ref (nC T h) :: st) (wN T h (100, N)) bc bs Q) : Att G T q d pc L (.int n :: st) h (bc + 1) (bs + N) Q := by
  intro p e R s m args below meth cc H locs cells slots KK Zs ls hC hH hS hl hc1 hc2 hk1 hk2 hE
  have hts := hC.2.2.2.2.2.1
  have hga : ga G (nC T h) = gb G + nC T h := ga_lt (by omega)
  have hn0 : ¬ n < 0 := by rw [hN]; exact nI_pos (by omega)
  have hnN : n.toNatClampNeg = N := by rw [hN]; exact nI_clamp (by omega)
  refine va_newaK (atype := .int) hC.1 hC.2.1 (hts _ hw) rfl hd rfl hn0 hnN (by show N * 4 ≤ _; omega) (by omega) (by omega) hH.1 fun H1 cA e1 z1 o1 hAr hNm => ?_
  have hcA : cA = G.2.2.1 0 := by
    have := (hC.2.2.2.2.2.2.1.2 0 _ rfl).2
    exact Option.some.inj (hNm.symm.trans this)
  subst hcA
  rw [← hga]
  refine kk p e R s m args below meth cc H1 locs (cells + 1) (slots + N) KK Zs ls hC (hH.push nC_wN (fun j hj => ent_wN_lt hj) (by rw [z1, hH.1]) (fun a ha => o1 a (by rw [← hH.1]; exact ha)) ?_) ⟨by rw [z1, ← hH.1]; exact Nat.le_succ_of_le hS.1, fun a h1 h2 => (o1 a (by rw [← hH.1]; exact Nat.lt_of_lt_of_le h1 hS.1)).trans (hS.2.1 a h1 h2), hS.2.2⟩ hl (by omega) (by omega) (by rw [nC_wN]; omega) hk2 hE
  rw [ent_i (n := N) (by rw [rS_wN hfr.1])]
  show H1[gb G + nC T h]? = some (vp_cell _ _)
  rw [e1, vp_cell_i]
  congr 2
  funext j
  unfold entI
  simp [wN]
  rfl
theorem A_newq {n : Int32} {N t idx : Nat} {C : String} (hd : decode q.2.2.1 pc = .ok (.anewarray idx, 3)) (ht : t < 3) (hC9 : (tyG G)[t + 1]? = some (G.2.2.1 (t + 1), .object C)) (hcl : Cond.classLink q.1 idx C ∈ tblG) (hN : n = Int32.ofNat N) (hN2 : N < 100000) (hfr : frN T h) (kk : Att G T q d (pc + 3) L (.ref (nC T h) :: st) (wN T h (101 + t, N)) bc bs Q) : Att G T q d pc L (.int n :: st) h (bc + 1) (bs + N) Q := by
  intro p e R s m args below meth cc H locs cells slots KK Zs ls hC hH hS hl hc1 hc2 hk1 hk2 hE
  have hts := hC.2.2.2.2.2.1
  have hga : ga G (nC T h) = gb G + nC T h := ga_lt (by omega)
  have hn0 : ¬ n < 0 := by rw [hN]; exact nI_pos (by omega)
  have hnN : n.toNatClampNeg = N := by rw [hN]; exact nI_clamp (by omega)
  have hover : (Cond.arrayOver (.object C)).before args s = true := by
    obtain ⟨-, -, -, ⟨h4, h5, h6⟩, -⟩ := hC.2.2.2.2.2.2.2.1
    match t, ht, hC9 with
    | 0, _, hC9 => cases hC9; exact va_AO.use h4
    | 1, _, hC9 => cases hC9; exact va_AO.use h5
    | 2, _, hC9 => cases hC9; exact va_AO.use h6
  refine W.anew hC.1 hC.2.1 hC.2.2.2.1 (hts _ hcl) hover rfl hd rfl hn0 (by rw [hnN]; omega) (by omega) (by rw [hnN]; omega) fun cA kA comp f1 f2 f3 f4 => ?_
  have hcA : cA = G.2.2.1 (t + 1) := by
    obtain ⟨-, _, _, -, -, -, h9⟩ := hC.2.2.2.2.2.2.1.2 (t + 1) _ hC9
    exact Option.some.inj (f1.symm.trans h9)
  subst hcA
  rw [hnN]
  generalize hH1 : H.push ({ cls := G.2.2.1 (t + 1), slots := Array.replicate N .null, vm := .none } : Cell) = H1
  have z1 : H1.size = H.size + 1 := by rw [← hH1, Array.size_push]
  have e1 : H1[H.size]? = some (arrV (G.2.2.1 (t + 1)) N (fun _ => .null)) := by rw [← hH1, Array.getElem?_push_size, ← arrV_new]
  have o1 : ∀ a : Nat, a < H.size → H1[a]? = H[a]? := fun a ha => by rw [← hH1, Array.getElem?_push, if_neg (Nat.ne_of_lt ha)]
  rw [hH.1, ← hga]
  refine kk p e R s m args below meth cc H1 locs (cells + 1) (slots + N) KK Zs ls hC (hH.push nC_wN (fun j hj => ent_wN_lt hj) z1 o1 ?_) ⟨by rw [z1]; exact Nat.le_succ_of_le hS.1, fun a h1 h2 => (o1 a (Nat.lt_of_lt_of_le h1 hS.1)).trans (hS.2.1 a h1 h2), hS.2.2⟩ hl (by omega) (by omega) (by rw [nC_wN]; omega) hk2 hE
  rw [ent_r (t := t) (n := N) (by rw [rS_wN hfr.1])]
  show H1[gb G + nC T h]? = some (vp_cell _ _)
  rw [← hH.1, e1, vp_cell_q]
  congr 2
  funext j
  unfold entR
  rw [rR_wN hfr.2]
  rfl
/-- which class's objects may lie in an array of the t-th kind -/
def asgOK (c t : Nat) : Prop := ∃ (C D : String) (F : u_T) (N : Nat), clL[c]? = some (C, F, N) ∧ ([R_House, R_Law, R_Sheet])[t]? = some D ∧ (C = D ∨ (C, D) ∈ castL)
theorem A_aast {a t n b c : Nat} {i : Int32} (hd : decode q.2.2.1 pc = .ok (.aastore, 1)) (ht : t < 3) (ha : vA T h a) (hs : rS T h a = (101 + t, n)) (hi : inb i n) (hb : vA T h b) (hsb : (rS T h b).1 = c) (hc100 : c < 100) (hok : asgOK c t) (hdyn : T.1 a i.toNatClampNeg = none) (kk : Att G T q d (pc + 1) L st (wR h a i.toNatClampNeg (b + 1)) bc bs Q) : Att G T q d pc L (.ref b :: .int i :: .ref a :: st) h bc bs Q := by
  intro p e R s m args below meth cc H locs cells slots KK Zs ls hC hH hS hl hc1 hc2 hk1 hk2 hE
  have hvA : a < nC T h := ha
  have hvB : b < nC T h := hb
  have hga : ga G a = gb G + a := ga_lt (by omega)
  have hgb : ga G b = gb G + b := ga_lt (by omega)
  show W p G.1 e R s m args below meth cc H locs cells slots Zs (F0 m pc ls (.ref (ga G b) :: .int i :: .ref (ga G a) :: st.map (cv G)))
  rw [hga, hgb]
  have hat := hH.2 a ha
  rw [ent_r hs] at hat
  have hbt := hH.2 b hb
  rw [ent_o hsb hc100] at hbt
  obtain ⟨C, D, F, N, hcl, hD, hcd⟩ := hok
  obtain ⟨r', hr', cellV, g1, g2, g3, -⟩ := hbt
  have hcls := (hC.2.2.2.2.2.2.1.1 c _ hcl).2
  have hty : (tyG G)[t + 1]? = some (G.2.2.1 (t + 1), .object D) := by
    match t, ht, hD with
    | 0, _, hD => cases hD; rfl
    | 1, _, hD => cases hD; rfl
    | 2, _, hD => cases hD; rfl
  obtain ⟨kA, comp, k1, k2, k3, -⟩ := (hC.2.2.2.2.2.2.1.2 (t + 1) _ hty).2
  obtain ⟨kC, hkC, hkind⟩ := hcls.2
  have hasg : s.vm.assignable (G.2.1.1 c) comp = true ∧ ∃ kcomp, s.vm.classes[comp]? = some kcomp := by
    rcases hcd with rfl | hcd
    · have : comp = G.2.1.1 c := Option.some.inj (k3.symm.trans hcls.1)
      subst this
      exact ⟨va_assign hcls, kC, hkC⟩
    · have hw := hC.2.2.2.2.2.2.2.1.2.1 _ hcd
      obtain ⟨c0, t0, f1, f2, f3⟩ := Cond.castable_spec (va_Nw.use (A := args) rfl hw)
      have e1 : c0 = G.2.1.1 c := Option.some.inj (f1.symm.trans hcls.1)
      have e2 : t0 = comp := Option.some.inj (f2.symm.trans k3)
      subst e1; subst e2
      obtain ⟨ks, hks, -⟩ := Vm.findClass_spec f2
      exact ⟨f3, ks, hks⟩
  obtain ⟨hasg, kcomp, hkcomp⟩ := hasg
  have hlt : i.toNatClampNeg < n := Nat.not_le.mp fun z => inb_in hi (Or.inr z)
  refine W.aast hC.1 hC.2.1 hat (fun z h9 => by cases h9) (fun h9 => by cases h9) k1 k2 rfl hkcomp ⟨fun z => inb_in hi (Or.inl z), by show _ < (arrV _ _ _).slots.size; rw [arrV_size]; exact hlt⟩ g1 (fun z h9 => by rw [g3] at h9; cases h9) (by rw [g2]; exact hkC) (by rw [g2]; exact hasg) rfl rfl hd fun H1 e1 z oq => ?_
  refine kk p e R s m args below meth cc H1 _ cells slots KK Zs ls hC (hH.upd rfl (fun j hj => ent_congr rfl rfl (rR_wR_ne hj) rfl) z oq ?_) (hS.put z oq (Nat.le_add_right _ _)) hl hc1 hc2 hk1 hk2 hE
  have hs' : rS T (wR h a i.toNatClampNeg (b + 1)) a = (101 + t, n) := hs
  rw [ent_r hs']
  show H1[gb G + a]? = some (vp_cell _ _)
  rw [e1, vp_cell_q, vp_cell_q, arrV_store]
  congr 2
  funext j
  unfold entR
  rw [oR_rf, rR_wR hdyn]
  by_cases hj : j = i.toNatClampNeg
  · simp only [updV, if_pos hj]
    show Value.ref (gb G + b) = .ref (ga G b)
    rw [hgb]
  · simp only [updV, if_neg hj, oR_rf]
end HOPS3
end
section
theorem ga_sp {G : GG} (k : Nat) : ga G (1000000 + k) = G.2.2.2.2.1 k := by
  unfold ga
  rw [if_neg (by omega), Nat.add_sub_cancel_left]
section HOPS4
variable {G : GG} {T : TT} {q : MM} {d pc : Nat} {L : LL} {st : List Value} {h : AH} {bc bs : Nat} {Q : QQ}
theorem A_i2c {x : Int32} (hd : decode q.2.2.1 pc = .ok (.i2c, 1)) (k : Att G T q d (pc + 1) L (.int (x.toUInt32 % 65536).toInt32 :: st) h bc bs Q) : Att G T q d pc L (.int x :: st) h bc bs Q := by
  intro p e R s m args below meth c H locs cells slots KK Zs ls hC hH hS hl hc1 hc2 hk1 hk2 hE
  exact lv_i2c hC.1 hC.2.1 hd rfl (k p e R s m args below meth c H locs cells slots KK Zs ls hC hH hS hl hc1 hc2 hk1 hk2 hE)
theorem A_ldcS {idx : Nat} {own tx : String} (i : Nat) (hd : decode q.2.2.1 pc = .ok (.ldc idx, 2)) (hi : strL[i]? = some (own, idx, tx)) (hown : own = q.1) (k : Att G T q d (pc + 2) L (.ref (1000000 + i) :: st) h bc bs Q) : Att G T q d pc L st h bc bs Q := by
  intro p e R s m args below meth c H locs cells slots KK Zs ls hC hH hS hl hc1 hc2 hk1 hk2 hE
  have hw := hC.2.2.2.2.2.2.2.1.2.2.2.2.2.1 i _ hi
  subst hown
  refine va_ldcS hC.1 hC.2.1 hC.2.2.2.1 hw hd ?_
  have := k p e R s m args below meth c H locs cells slots KK Zs ls hC hH hS hl hc1 hc2 hk1 hk2 hE
  rw [← ga_sp]
  exact this
theorem A_strV {idx i : Nat} (hd : decode q.2.2.1 pc = .ok (.getfield idx, 3)) (hw : Cond.fieldLink q.1 idx "java/lang/String" "value" "[B" ∈ tblG) (hi : i < 13) (k : Att G T q d (pc + 3) L (.ref (1000000 + (100 + i)) :: st) h bc bs Q) : Att G T q d pc L (.ref (1000000 + i) :: st) h bc bs Q := by
  intro p e R s m args below meth c H locs cells slots KK Zs ls hC hH hS hl hc1 hc2 hk1 hk2 hE
  have hS7 := hC.2.2.2.2.2.2.2.1.2.2.2.2.1
  show W p G.1 e R s m args below meth c H locs cells slots Zs (F0 m pc ls (.ref (ga G (1000000 + i)) :: st.map (cv G)))
  rw [ga_sp]
  refine vk_getf (o := "java/lang/String") (v := .ref (G.2.2.2.2.1 (100 + i))) hC.1 hC.2.1 (hS7.1 i hi).2.2.1 hS hC.2.2.2.1 (hC.2.2.2.2.2.1 _ hw) (fun _ z => z) hd ?_
  have := k p e R s m args below meth c H locs cells slots KK Zs ls hC hH hS hl hc1 hc2 hk1 hk2 hE
  rw [← ga_sp]
  exact this
theorem A_strC {idx i : Nat} (hd : decode q.2.2.1 pc = .ok (.getfield idx, 3)) (hw : Cond.fieldLink q.1 idx "java/lang/String" "coder" "B" ∈ tblG) (hi : i < 13) (k : Att G T q d (pc + 3) L (.int 0 :: st) h bc bs Q) : Att G T q d pc L (.ref (1000000 + i) :: st) h bc bs Q := by
  intro p e R s m args below meth c H locs cells slots KK Zs ls hC hH hS hl hc1 hc2 hk1 hk2 hE
  have hS7 := hC.2.2.2.2.2.2.2.1.2.2.2.2.1
  show W p G.1 e R s m args below meth c H locs cells slots Zs (F0 m pc ls (.ref (ga G (1000000 + i)) :: st.map (cv G)))
  rw [ga_sp]
  exact vk_getf (o := "java/lang/String") (v := .int 0) hC.1 hC.2.1 (hS7.1 i hi).2.1 hS hC.2.2.2.1 (hC.2.2.2.2.2.1 _ hw) (fun _ z => z) hd (k p e R s m args below meth c H locs cells slots KK Zs ls hC hH hS hl hc1 hc2 hk1 hk2 hE)
theorem A_strN {i : Nat} (hd : decode q.2.2.1 pc = .ok (.arraylength, 1)) (hi : i < 13) (k : Att G T q d (pc + 1) L (.int (Int32.ofNat (strLen.getD i 0)) :: st) h bc bs Q) : Att G T q d pc L (.ref (1000000 + (100 + i)) :: st) h bc bs Q := by
  intro p e R s m args below meth c H locs cells slots KK Zs ls hC hH hS hl hc1 hc2 hk1 hk2 hE
  have hS7 := hC.2.2.2.2.2.2.2.1.2.2.2.2.1
  show W p G.1 e R s m args below meth c H locs cells slots Zs (F0 m pc ls (.ref (ga G (1000000 + (100 + i))) :: st.map (cv G)))
  rw [ga_sp]
  exact va_tlen hC.1 hC.2.1 (hS7.1 i hi).2.2.2 hS rfl hd (k p e R s m args below meth c H locs cells slots KK Zs ls hC hH hS hl hc1 hc2 hk1 hk2 hE)
theorem A_strB {i : Nat} {j : Int32} (hd : decode q.2.2.1 pc = .ok (.baload, 1)) (hi : i < 13) (hj : inb j (strLen.getD i 0)) (k : Att G T q d (pc + 1) L (.int ((strByt.getD i []).getD j.toNatClampNeg 0) :: st) h bc bs Q) : Att G T q d pc L (.int j :: .ref (1000000 + (100 + i)) :: st) h bc bs Q := by
  intro p e R s m args below meth c H locs cells slots KK Zs ls hC hH hS hl hc1 hc2 hk1 hk2 hE
  have hS7 := hC.2.2.2.2.2.2.2.1.2.2.2.2.1
  show W p G.1 e R s m args below meth c H locs cells slots Zs (F0 m pc ls (.int j :: .ref (ga G (1000000 + (100 + i))) :: st.map (cv G)))
  rw [ga_sp]
  exact va_tb hC.1 hC.2.1 (hS7.1 i hi).2.2.2 hS (inb_in hj) rfl hd (k p e R s m args below meth c H locs cells slots KK Zs ls hC hH hS hl hc1 hc2 hk1 hk2 hE)
theorem A_gstC {idx : Nat} (hd : decode q.2.2.1 pc = .ok (.getstatic idx, 3)) (hw : Cond.fieldLink q.1 idx "java/lang/String" "COMPACT_STRINGS" "Z" ∈ tblG) (k : Att G T q d (pc + 3) L (.int 1 :: st) h bc bs Q) : Att G T q d pc L st h bc bs Q := by
  intro p e R s m args below meth c H locs cells slots KK Zs ls hC hH hS hl hc1 hc2 hk1 hk2 hE
  exact va_gets hC.1 hC.2.1 hC.2.2.2.2.2.2.2.1.2.2.2.2.2.2.1 hS hC.2.2.2.1 (hC.2.2.2.2.2.1 _ hw) (fun _ z => z) hd (k p e R s m args below meth c H locs cells slots KK Zs ls hC hH hS hl hc1 hc2 hk1 hk2 hE)
theorem A_gstF {idx : Nat} (hd : decode q.2.2.1 pc = .ok (.getstatic idx, 3)) (hw : Cond.fieldLink q.1 idx "jdk/internal/util/Preconditions" "SIOOBE_FORMATTER" "Ljava/util/function/BiFunction;" ∈ tblG) (k : ∀ w : Value, (w = .null ∨ w = .ref (1000000 + 300)) → Att G T q d (pc + 3) L (w :: st) h bc bs Q) : Att G T q d pc L st h bc bs Q := by
  intro p e R s m args below meth c H locs cells slots KK Zs ls hC hH hS hl hc1 hc2 hk1 hk2 hE
  rcases hC.2.2.2.2.2.2.2.1.2.2.2.2.2.2.2.2 with hz | hz
  · exact va_gets hC.1 hC.2.1 hz hS hC.2.2.2.1 (hC.2.2.2.2.2.1 _ hw) (fun _ z => z) hd (k .null (Or.inl rfl) p e R s m args below meth c H locs cells slots KK Zs ls hC hH hS hl hc1 hc2 hk1 hk2 hE)
  · refine va_gets hC.1 hC.2.1 hz hS hC.2.2.2.1 (hC.2.2.2.2.2.1 _ hw) (fun _ z => z) hd ?_
    have := k _ (Or.inr rfl) p e R s m args below meth c H locs cells slots KK Zs ls hC hH hS hl hc1 hc2 hk1 hk2 hE
    rw [← ga_sp]
    exact this
theorem A_scrN (hd : decode q.2.2.1 pc = .ok (.arraylength, 1)) (k : Att G T q d (pc + 1) L (.int (Int32.ofNat G.2.2.2.2.2.1) :: st) h bc bs Q) : Att G T q d pc L (.ref (1000000 + 200) :: st) h bc bs Q := by
  intro p e R s m args below meth c H locs cells slots KK Zs ls hC hH hS hl hc1 hc2 hk1 hk2 hE
  have hS7 := hC.2.2.2.2.2.2.2.1.2.2.2.2.2.2.2.1
  show W p G.1 e R s m args below meth c H locs cells slots Zs (F0 m pc ls (.ref (ga G (1000000 + 200)) :: st.map (cv G)))
  rw [ga_sp]
  exact va_tlen hC.1 hC.2.1 hS7 hS rfl hd (k p e R s m args below meth c H locs cells slots KK Zs ls hC hH hS hl hc1 hc2 hk1 hk2 hE)
theorem A_scrI {j : Int32} (hd : decode q.2.2.1 pc = .ok (.iaload, 1)) (hj : inb j G.2.2.2.2.2.1) (k : Att G T q d (pc + 1) L (.int (G.2.2.2.2.2.2 j.toNatClampNeg) :: st) h bc bs Q) : Att G T q d pc L (.int j :: .ref (1000000 + 200) :: st) h bc bs Q := by
  intro p e R s m args below meth c H locs cells slots KK Zs ls hC hH hS hl hc1 hc2 hk1 hk2 hE
  have hS7 := hC.2.2.2.2.2.2.2.1.2.2.2.2.2.2.2.1
  show W p G.1 e R s m args below meth c H locs cells slots Zs (F0 m pc ls (.int j :: .ref (ga G (1000000 + 200)) :: st.map (cv G)))
  rw [ga_sp]
  exact va_ti hC.1 hC.2.1 hS7 hS (inb_in hj) rfl hd (k p e R s m args below meth c H locs cells slots KK Zs ls hC hH hS hl hc1 hc2 hk1 hk2 hE)
/-- which of the houses' classes is which: (class, asked class) -/
def subB (c t : Nat) : Bool := decide ((c, t) ∈ [(3, 3), (0, 3), (1, 1), (9, 1), (0, 0), (9, 9), (5, 5)])
def instOK (c t : Nat) : Prop := ∃ (C D : String) (F : u_T) (N : Nat) (F2 : u_T) (N2 : Nat), clL[c]? = some (C, F, N) ∧ c < 100 ∧ clL[t]? = some (D, F2, N2) ∧ (if subB c t then (C = D ∨ (C, D) ∈ castL) else (C, D) ∈ ncL)
theorem A_inst {a idx c t : Nat} {D : String} (hd : decode q.2.2.1 pc = .ok (.instanceof idx, 3)) (hD : (clL[t]?).map (·.1) = some D) (hw : Cond.classLink q.1 idx D ∈ tblG) (ha : vA T h a) (hs : (rS T h a).1 = c) (hok : instOK c t) (kk : Att G T q d (pc + 3) L (.int (if subB c t then 1 else 0) :: st) h bc bs Q) : Att G T q d pc L (.ref a :: st) h bc bs Q := by
  intro p e R s m args below meth cc H locs cells slots KK Zs ls hC hH hS hl hc1 hc2 hk1 hk2 hE
  have hvA : a < nC T h := ha
  have hga : ga G a = gb G + a := ga_lt (by omega)
  show W p G.1 e R s m args below meth cc H locs cells slots Zs (F0 m pc ls (.ref (ga G a) :: st.map (cv G)))
  rw [hga]
  obtain ⟨C, D', F, N, F2, N2, hcl, hc100, hcl2, hsub⟩ := hok
  have hDD : D' = D := by rw [hcl2] at hD; exact Option.some.inj hD
  subst hDD
  have hP := hH.P ha
  rw [ent_o hs hc100] at hP
  have hr := va_recv hC.2.2.2.2.2.2.1 hP (ci := c) (q0 := 0) hcl rfl
  have hlk := hC.2.2.2.2.2.1 _ hw
  have go := kk p e R s m args below meth cc H locs cells slots KK Zs ls hC hH hS hl hc1 hc2 hk1 hk2 hE
  cases hb : subB c t with
  | true =>
    rw [hb] at go hsub
    simp only [if_pos] at go hsub
    rcases hsub with rfl | hsub
    · exact va_instS hC.1 hC.2.1 hC.2.2.2.1 hlk (hC.2.2.2.2.2.2.1.1 c _ hcl).2 hr hd go
    · exact va_instY hC.1 hC.2.1 hC.2.2.2.1 hlk (hC.2.2.2.2.2.2.2.1.2.1 _ hsub) hr hd go
  | false =>
    rw [hb] at go hsub
    simp only [Bool.false_eq_true, if_false] at go hsub
    exact va_instNo hC.1 hC.2.1 hC.2.2.2.1 hlk (hC.2.2.2.2.2.2.2.1.2.2.1 _ hsub) hr hd go
theorem A_objI {a idx : Nat} (hd : decode q.2.2.1 pc = .ok (.invokespecial idx, 3)) (h1 : Cond.methodLink q.1 idx Lib.objectInit ∈ tblG) (h2 : Cond.instanceMethod Lib.objectInit ∈ tblG) (h3 : Cond.code Lib.objectInit ⟨#[0xb1]⟩ 1 none ∈ tblG) (hsum : (st.map fun v => v.category).sum ≤ 8) (kk : Att G T q (d + 1) (pc + 3) L st h bc bs Q) : Att G T q (d + 1) pc L (.ref a :: st) h bc bs Q := by
  intro p e R s m args below meth cc H locs cells slots KK Zs ls hC hH hS hl hc1 hc2 hk1 hk2 hE
  have hts := hC.2.2.2.2.2.1
  have hd1 := hC.2.2.2.2.2.2.2.2.2.1
  have hd2 := hC.2.2.2.2.2.2.2.2.2.2
  refine W.objInit hC.1 hC.2.1 hC.2.2.2.1 (hts _ h1) (hts _ h2) (hts _ h3) rfl (by rw [hC.2.2.1]; exact hl.1) rfl hd (by omega) (by rw [sum_cv]; show 2 * 0 + _ + 12 ≤ _; omega) ?_
  exact kk p e R s m args below meth cc H locs cells slots KK Zs ls hC hH hS hl hc1 hc2 hk1 hk2 hE
end HOPS4
end
section
/-- a stretch of one row laid into another -/
def cpI (f g : Int32 → Int32) (sp dp n : Int32) : Int32 → Int32 := fun j => if dp.toInt ≤ j.toInt ∧ j.toInt < dp.toInt + n.toInt then f (sp + (j - dp)) else g j
def wC (h : AH) (a0 a : Nat) (sp dp n : Int32) : AH := (fun b => if b = a then cpI (h.1 a0) (h.1 a) sp dp n else h.1 b, h.2)
theorem clampI {x : Int32} (h : 0 ≤ x.toInt) : (x.toNatClampNeg : Int) = x.toInt := by
  show ((x.toInt.toNat : Nat) : Int) = _
  omega
theorem cpI_ent {f g : Int32 → Int32} {sp dp n : Int32} {n0 n1 : Nat} (hs : 0 ≤ sp.toInt) (hd : 0 ≤ dp.toInt) (hn : 0 ≤ n.toInt) (h4 : sp.toInt + n.toInt ≤ n0) (hn0 : n0 < 2147483648) {j : Nat} (hj : j < 2147483648) (F : Nat → Int32) (Gf : Nat → Int32) (hF : ∀ j : Nat, j < 2147483648 → F j = f (Int32.ofNat j)) (hG : ∀ j : Nat, j < 2147483648 → Gf j = g (Int32.ofNat j)) :
    va_cpy F Gf sp.toNatClampNeg dp.toNatClampNeg n.toNatClampNeg j = cpI f g sp dp n (Int32.ofNat j) := by
  have e1 := clampI hs
  have e2 := clampI hd
  have e3 := clampI hn
  have ej : (Int32.ofNat j).toInt = j := nI_toInt hj
  unfold cpI
  simp only [va_cpy]
  by_cases hc : dp.toNatClampNeg ≤ j ∧ j < dp.toNatClampNeg + n.toNatClampNeg
  · rw [if_pos hc, if_pos (by rw [ej]; omega), hF _ (by omega)]
    congr 1
    apply Int32.toInt_inj.mp
    have g1 : (Int32.ofNat j - dp).toInt = j - dp.toInt := by
      rw [Int32.toInt_sub, ej]
      exact Int.bmod_eq_of_le (by omega) (by omega)
    rw [Int32.toInt_add, g1]
    rw [Int.bmod_eq_of_le (by omega) (by omega)]
    rw [show (Int32.ofNat (sp.toNatClampNeg + (j - dp.toNatClampNeg))).toInt = ((sp.toNatClampNeg + (j - dp.toNatClampNeg) : Nat) : Int) from nI_toInt (by omega)]
    omega
  · rw [if_neg hc, if_neg (by rw [ej]; omega), hG _ hj]
section HOPS5
variable {G : GG} {T : TT} {q : MM} {d pc : Nat} {L : LL} {st : List Value} {h : AH} {bc bs : Nat} {Q : QQ}
theorem A_acopy {a0 a idx n0 n1 : Nat} {sp dp n : Int32} (hd : decode q.2.2.1 pc = .ok (.invokestatic idx, 3)) (hw1 : Cond.methodLink q.1 idx arraycopyName ∈ tblG) (hw2 : Cond.native arraycopyName ∈ tblG) (hw3 : Cond.static arraycopyName ∈ tblG) (hw4 : Cond.initialized "java/lang/System" ∈ tblG)
    (ha0 : vA T h a0) (hs0 : rS T h a0 = (100, n0)) (ha : vA T h a) (hs1 : rS T h a = (100, n1)) (h1 : 0 ≤ sp.toInt) (h2 : 0 ≤ dp.toInt) (h3 : 0 ≤ n.toInt) (h4 : sp.toInt + n.toInt ≤ n0) (h5 : dp.toInt + n.toInt ≤ n1) (hn0 : n0 < 2147483648) (hn1 : n1 < 2147483648) (hsum : (st.map fun v => v.category).sum ≤ 8)
    (kk : Att G T q (d + 1) (pc + 3) L st (wC h a0 a sp dp n) bc bs Q) : Att G T q (d + 1) pc L (.int n :: .int dp :: .ref a :: .int sp :: .ref a0 :: st) h bc bs Q := by
  intro p e R s m args below meth cc H locs cells slots KK Zs ls hC hH hS hl hc1 hc2 hk1 hk2 hE
  have hvA : a < nC T h := ha
  have hvA0 : a0 < nC T h := ha0
  have hga : ga G a = gb G + a := ga_lt (by omega)
  have hga0 : ga G a0 = gb G + a0 := ga_lt (by omega)
  show W p G.1 e R s m args below meth cc H locs cells slots Zs (F0 m pc ls (.int n :: .int dp :: .ref (ga G a) :: .int sp :: .ref (ga G a0) :: st.map (cv G)))
  rw [hga, hga0]
  have hts := hC.2.2.2.2.2.1
  have hd1 := hC.2.2.2.2.2.2.2.2.2.1
  have hd2 := hC.2.2.2.2.2.2.2.2.2.2
  have hc0 := hH.2 a0 ha0
  rw [ent_i hs0] at hc0
  have hc1' := hH.2 a ha
  rw [ent_i hs1] at hc1'
  have hc0 : H[gb G + a0]? = some (vp_cell (G.2.2.1 0) (n0, .inl (entI h a0))) := hc0
  have hc1' : H[gb G + a]? = some (vp_cell (G.2.2.1 0) (n1, .inl (entI h a))) := hc1'
  have hKt := (hC.2.2.2.2.2.2.1.2 0 _ rfl).1
  obtain ⟨-, k0, hk0, cm0, hkk0⟩ := hKt n0 (fun j => .int (entI h a0 j))
  have e1 := clampI h1
  have e2 := clampI h2
  have e3 := clampI h3
  have nn : ∀ z : Int32, 0 ≤ z.toInt → ¬ z < 0 := fun z hz h9 => by
    rw [Int32.lt_iff_toInt_lt] at h9
    simp at h9
    omega
  intro Tt hT X
  obtain ⟨vm', X', step⟩ := X.arraycopy hC.1 hC.2.2.2.1 (hts _ hw1) (hts _ hw2) (hts _ hw3) (hts _ hw4) (src := gb G + a0) (dst := gb G + a) (cs := vp_cell (G.2.2.1 0) (n0, .inl (entI h a0))) (cd := vp_cell (G.2.2.1 0) (n1, .inl (entI h a))) (srcPos := sp) (destPos := dp) (n := n) (by rw [hT]; exact hc0) (by rw [hT]; exact hc1')
    (fun _ h9 => by cases h9) (fun _ h9 => by cases h9) (fun h9 => by cases h9) (fun h9 => by cases h9) hk0 hk0 hkk0 hkk0 (by simp [refKind]) (nn _ h1) (nn _ h2) (nn _ h3)
    (by show ¬ _ > ((arrV (G.2.2.1 0) n0 (fun j => .int (entI h a0 j))).slots.size : Int); rw [arrV_size]; omega)
    (by show ¬ _ > ((arrV (G.2.2.1 0) n1 (fun j => .int (entI h a j))).slots.size : Int); rw [arrV_size]; omega)
    (fun vm₁ _ i hi => by
      have ee : (vp_cell (G.2.2.1 0) (n0, .inl (entI h a0))).slots.getD (sp.toNatClampNeg + i) .null = .int (entI h a0 (sp.toNatClampNeg + i)) := by
        show (arrV (G.2.2.1 0) n0 (fun j => .int (entI h a0 j))).slots.getD _ _ = _
        rw [Array.getD_eq_getD_getElem?, arrV_read _ _ (by omega)]
        rfl
      refine ⟨?_, ?_⟩
      · rw [ee]; rfl
      · rw [ee]; exact trivial)
    (g := F0 m pc ls (.int n :: .int dp :: .ref (gb G + a) :: .int sp :: .ref (gb G + a0) :: st.map (cv G))) rfl (by rw [hC.2.2.1]; exact hl.1) (rest := st.map (cv G)) rfl (by rw [hC.2.1]; exact hd) (by omega) (by
      show 2 * 0 + _ + _ ≤ _
      rw [sum_cv]
      have : nativeFrameWords "java/lang/System" "arraycopy" 5 + 11 ≤ 18 := by decide
      omega)
  have ec : copied (vp_cell (G.2.2.1 0) (n0, .inl (entI h a0))) (vp_cell (G.2.2.1 0) (n1, .inl (entI h a))) sp dp n = vp_cell (G.2.2.1 0) (n1, .inl (va_cpy (entI h a0) (entI h a) sp.toNatClampNeg dp.toNatClampNeg n.toNatClampNeg)) := va_copied (fun z => .int z) _ _ (entI h a0) (entI h a) (by omega)
  have en : va_cpy (entI h a0) (entI h a) sp.toNatClampNeg dp.toNatClampNeg n.toNatClampNeg = entI (wC h a0 a sp dp n) a := by
    funext j
    by_cases hj : j < 2147483648
    · rw [cpI_ent (f := h.1 a0) (g := h.1 a) (n1 := n1) h1 h2 h3 h4 hn0 hj (entI h a0) (entI h a) (fun j hj => by unfold entI; rw [if_pos hj]) (fun j hj => by unfold entI; rw [if_pos hj])]
      unfold entI wC
      simp [hj]
    · unfold entI
      rw [if_neg hj]
      simp only [va_cpy]
      have hl2 := Int32.toInt_lt sp
      by_cases hc : dp.toNatClampNeg ≤ j ∧ j < dp.toNatClampNeg + n.toNatClampNeg
      · omega
      · rw [if_neg hc, if_neg hj]
  rw [ec, en] at X' step
  have hla : gb G + a < H.size := (Array.getElem?_eq_some_iff.mp hc1').1
  generalize hZ : vp_cell (G.2.2.1 0) (n1, .inl (entI (wC h a0 a sp dp n) a)) = Z at X' step
  have hheap : ((Tt.setVm vm').setCell (gb G + a) Z).heap = H.setIfInBounds (gb G + a) Z := by rw [← hT]; rfl
  have oq : ∀ x : Nat, x ≠ gb G + a → (H.setIfInBounds (gb G + a) Z)[x]? = H[x]? := fun x hx => by simp [Array.getElem?_setIfInBounds, Ne.symm hx]
  obtain ⟨t, a1, b1⟩ := kk p e R s m args below meth cc (H.setIfInBounds (gb G + a) Z) _ cells slots KK Zs ls hC (hH.upd rfl (fun j hj => ent_congr (by simp [wC, hj]) rfl (fun _ => rfl) rfl) (by simp) oq (by
      have hs' : rS T (wC h a0 a sp dp n) a = (100, n1) := hs1
      rw [ent_i hs']
      show (H.setIfInBounds (gb G + a) Z)[gb G + a]? = some (vp_cell _ _)
      rw [hZ]
      simp [Array.getElem?_setIfInBounds, hla])) ⟨by simp; exact hS.1, fun x g1 g2 => by
        rw [oq x (fun e9 => g2 (by rw [e9]; exact Nat.le_add_right _ _))]
        exact hS.2.1 x g1 g2, fun x hx => by
        rcases List.mem_append.mp hx with h9 | h9
        · exact hS.2.2 x h9
        · obtain ⟨z, -, hz⟩ := List.mem_map.mp h9
          rw [← hz]
          exact Nat.le_add_right _ _⟩ hl hc1 hc2 hk1 hk2 hE _ hheap X'
  exact ⟨t, step t a1, b1⟩
end HOPS5
end
section
/-! calls -/
/-- what a call site asks of its receiver: nothing (static); a cell (a constructor); a cell of that class -/
def rcOK (s : State) (H : Heap) : Option (Option String) → List Value → Prop
  | none, _ => True
  | some none, Vs => ∃ (b : Nat) (As : List Value), Vs = .ref b :: As
  | some (some C), Vs => ∃ (b : Nat) (As : List Value) (cell : Cell), Vs = .ref b :: As ∧ H[b]? = some cell ∧ cell.vm.isStatics = false ∧ s.vm.findClass C = some cell.cls
def CallTo (q q2 : MM) (ins : Instr) (n : Nat) (rc : Option (Option String)) : Prop :=
  ∀ (p : Program) (l : Launch) (e : Env) (R : Room) (s : State) (m : MethodId) (args : Array Value) (below : List Frame) (meth : Method) (c : Code) (H : Heap) (locs : List Loc) (cells slots mc ms : Nat) (rm : Room) (Pc : Array Value → State → Prop) (Qc : Array Value → State → Outcome → State → Prop) (free : Addr → Prop) (Vs rest : List Value) (ls : Array Slot) (pc : Nat),
    CallFix p m c q.2.2.1 q.2.2.2.1 s args tblG q.1 → (∀ x ∈ nestL, va_Nw (.methodLinkNest x.1 x.2.1 x.2.2.1 x.2.2.2) s) → (∀ (k : Nat) (r : vw_C), clL[k]? = some r → ∃ cC, ClassAt s r.1 cC) →
    Met l q2.2.1 (wsM q2) rm Pc Qc mc ms free → rm.cells = mc → rm.slots = ms → rm.frames + 1 ≤ R.frames → 8 + (q2.2.2.2.1 + 11) + rm.locals ≤ R.locals → FrameBlind Pc → (∀ U : State, U.heap = H → s.WarmedH U.vm → Pc Vs.toArray U) → rcOK s H rc Vs → Vs.length = n →
    ls.size = q.2.2.2.1 → (rest.map fun v => v.category).sum ≤ 8 → decode q.2.2.1 pc = .ok (ins, 3) → cells + mc ≤ R.cells ∧ slots + ms ≤ R.slots →
    va_Run p l e R s m args below meth c H locs cells slots mc ms (F0 m pc ls (Vs.reverse ++ rest)) rest (Qc Vs.toArray) free
theorem good_of {ws : List Cond} (h : ∀ w ∈ ws, w ∈ tblG) : GoodIn tblG ws := fun w hw => ⟨h w hw, gG w (h w hw)⟩
theorem wsM_in {q : MM} (h : Cond.code q.2.1 q.2.2.1 q.2.2.2.1 q.2.2.2.2 ∈ tblG) : ∀ w ∈ wsM q, w ∈ tblG := fun w hw => (List.mem_cons.mp hw).elim (fun e => e ▸ h) id
abbrev MHok (y : MethodName) (n : Nat) : Prop := y.cls ≠ "java/lang/invoke/MethodHandle" ∧ y.cls ≠ "java/lang/invoke/VarHandle" ∧ (parseMethodDescriptor y.desc).map (fun d => d.parameters.length) = some n
theorem ct_V {q q2 : MM} {idx n : Nat} (h1 : Cond.methodLink q.1 idx q2.2.1 ∈ tblG) (h2 : Cond.instanceMethod q2.2.1 ∈ tblG) (h3 : Cond.selects q2.2.1.cls q2.2.1 q2.2.1 ∈ tblG) (h4 : Cond.initialized q2.2.1.cls ∈ tblG) (h5 : Cond.code q2.2.1 q2.2.2.1 q2.2.2.2.1 q2.2.2.2.2 ∈ tblG) (hd : MHok q2.2.1 n) :
    CallTo q q2 (.invokevirtual idx) (n + 1) (some (some q2.2.1.cls)) := by
  intro p l e R s m args below meth c H locs cells slots mc ms rm Pc Qc free Vs rest ls pc S hnw hca hM hrc hrs hf hlo hbl hPc hr hn hsz hW hdg hroom
  obtain ⟨b, As, cell, rfl, g1, g2, g3⟩ := hr
  have hT : GoodIn tblG (wsV q.1 idx q2.2.1.cls q2.2.1 (wsM q2)) := good_of (fun w hw => by
    rcases List.mem_append.mp hw with h | h
    · simp only [List.mem_cons, List.not_mem_nil, or_false] at h
      rcases h with rfl | rfl | rfl | rfl <;> assumption
    · exact wsM_in h5 w h)
  have hn' : As.length = n := by simpa using hn
  exact va_runV (As := As) (rest := rest) S hM (cwV n S.2.2.2.2 hT rfl hrc hrs ⟨rfl, hd⟩ ⟨hf, hlo⟩) ⟨hbl, ⟨cell, g1, g2, g3⟩, fun U hU hW => hPc U hU hW⟩ rfl hn' hsz (by simp [F0]) (lv_room hW) hdg hroom
theorem ct_S {q q2 : MM} {idx n : Nat} (h0 : q2.2.1.cls = q.1) (h1 : Cond.methodLink q.1 idx q2.2.1 ∈ tblG) (h2 : Cond.static q2.2.1 ∈ tblG) (h4 : Cond.initialized q.1 ∈ tblG) (h5 : Cond.code q2.2.1 q2.2.2.1 q2.2.2.2.1 q2.2.2.2.2 ∈ tblG) (hd : MHok q2.2.1 n) :
    CallTo q q2 (.invokestatic idx) n none := by
  intro p l e R s m args below meth c H locs cells slots mc ms rm Pc Qc free Vs rest ls pc S hnw hca hM hrc hrs hf hlo hbl hPc hr hn hsz hW hdg hroom
  have hT : GoodIn tblG (wsS q.1 idx q2.2.1 (wsM q2)) := good_of (fun w hw => by
    rcases List.mem_append.mp hw with h | h
    · simp only [List.mem_cons, List.not_mem_nil, or_false] at h
      rcases h with rfl | rfl | rfl <;> assumption
    · exact wsM_in h5 w h)
  exact va_runS (As := Vs) (rest := rest) S hM (cwS n S.2.2.2.2 hT rfl hrc hrs ⟨h0, hd⟩ ⟨hf, hlo⟩) ⟨hbl, fun U hU hW => hPc U hU hW⟩ rfl hn hsz rfl (lv_room hW) hdg hroom
/-- a static method of another class, not of a nest mate's private ones -/
theorem ct_So {q q2 : MM} {idx n : Nat} (h1 : Cond.methodLink q.1 idx q2.2.1 ∈ tblG) (h2 : Cond.static q2.2.1 ∈ tblG) (h4 : Cond.initialized q2.2.1.cls ∈ tblG) (h5 : Cond.code q2.2.1 q2.2.2.1 q2.2.2.2.1 q2.2.2.2.2 ∈ tblG) (hd : MHok q2.2.1 n) :
    CallTo q q2 (.invokestatic idx) n none := by
  intro p l e R s m args below meth c H locs cells slots mc ms rm Pc Qc free Vs rest ls pc S hnw hca hM hrc hrs hf hlo hbl hPc hr hn hsz hW hdg hroom
  have ht := S.2.2.2.2
  exact va_runS (As := Vs) (rest := rest) S hM ⟨callB_of n ht (good_of (wsM_in h5)) rfl hrc hrs (ht _ h4) (ht _ h1) hd ⟨hf, hlo⟩, ht _ h2⟩ ⟨hbl, fun U hU hW => hPc U hU hW⟩ rfl hn hsz rfl (lv_room hW) hdg hroom
theorem ct_I {q q2 : MM} {idx n : Nat} (h1 : Cond.methodLink q.1 idx q2.2.1 ∈ tblG) (h2 : Cond.instanceMethod q2.2.1 ∈ tblG) (h4 : Cond.initialized q2.2.1.cls ∈ tblG) (h5 : Cond.code q2.2.1 q2.2.2.1 q2.2.2.2.1 q2.2.2.2.2 ∈ tblG) (hr0 : q2.2.2.2.2 = none) (hnm : q2.2.1.name = "<init>") (hd : MHok q2.2.1 n) :
    CallTo q q2 (.invokespecial idx) (n + 1) (some none) := by
  intro p l e R s m args below meth c H locs cells slots mc ms rm Pc Qc free Vs rest ls pc S hnw hca hM hrc hrs hf hlo hbl hPc hr hn hsz hW hdg hroom
  obtain ⟨b, As, rfl⟩ := hr
  have ht := S.2.2.2.2
  have hw : wsM q2 = Cond.code q2.2.1 q2.2.2.1 q2.2.2.2.1 none :: tblG := by unfold wsM; rw [hr0]
  exact va_runI (As := As) (rest := rest) S hM (cwI n ht (good_of (wsM_in h5)) hw hrc hrs (ht _ h4) (ht _ h1) (ht _ h2) hnm hd ⟨hf, hlo⟩) ⟨hbl, fun U hU hW => hPc U hU hW⟩ rfl (by simpa using hn) hsz (by simp [F0]) (lv_room hW) hdg hroom
theorem ct_IN {q q2 : MM} {idx n : Nat} {host : String} (h1 : (q.1, idx, q2.2.1, host) ∈ nestL) (h2 : Cond.instanceMethod q2.2.1 ∈ tblG) (h4 : Cond.initialized q2.2.1.cls ∈ tblG) (h5 : Cond.code q2.2.1 q2.2.2.1 q2.2.2.2.1 q2.2.2.2.2 ∈ tblG) (hr0 : q2.2.2.2.2 = none) (hnm : q2.2.1.name = "<init>") (hd : MHok q2.2.1 n) :
    CallTo q q2 (.invokespecial idx) (n + 1) (some none) := by
  intro p l e R s m args below meth c H locs cells slots mc ms rm Pc Qc free Vs rest ls pc S hnw hca hM hrc hrs hf hlo hbl hPc hr hn hsz hW hdg hroom
  obtain ⟨b, As, rfl⟩ := hr
  have ht := S.2.2.2.2
  have hw : wsM q2 = Cond.code q2.2.1 q2.2.2.1 q2.2.2.2.1 none :: tblG := by unfold wsM; rw [hr0]
  exact va_runIN (As := As) (rest := rest) S hM ⟨va_cnB n ht (good_of (wsM_in h5)) hw hrc hrs (hnw _ h1) (ht _ h4) hd ⟨hf, hlo⟩, hnm, ht _ h2⟩ ⟨hbl, fun U hU hW => hPc U hU hW⟩ rfl (by simpa using hn) hsz (by simp [F0]) (lv_room hW) hdg hroom
theorem ct_SN {q q2 : MM} {idx n : Nat} {host : String} (h1 : (q.1, idx, q2.2.1, host) ∈ nestL) (h2 : Cond.static q2.2.1 ∈ tblG) (h4 : Cond.initialized q2.2.1.cls ∈ tblG) (h5 : Cond.code q2.2.1 q2.2.2.1 q2.2.2.2.1 q2.2.2.2.2 ∈ tblG) (hd : MHok q2.2.1 n) :
    CallTo q q2 (.invokestatic idx) n none := by
  intro p l e R s m args below meth c H locs cells slots mc ms rm Pc Qc free Vs rest ls pc S hnw hca hM hrc hrs hf hlo hbl hPc hr hn hsz hW hdg hroom
  have ht := S.2.2.2.2
  exact va_runSN (As := Vs) (rest := rest) S hM ⟨va_cnB n ht (good_of (wsM_in h5)) rfl hrc hrs (hnw _ h1) (ht _ h4) hd ⟨hf, hlo⟩, ht _ h2, trivial⟩ ⟨hbl, fun U hU hW => hPc U hU hW⟩ rfl hn hsz rfl (lv_room hW) hdg hroom
/-- named x, declared by owner; the receiver's class C selects q2 -/
theorem ct_O {q q2 : MM} {idx n : Nat} {C owner : String} {x : MethodName} {b0 : ByteArray} {m0 : Nat} {r0 : Option FieldType} (h1 : Cond.methodLink q.1 idx x ∈ tblG) (hsm : Cond.sameMethod x.cls owner x.name x.desc ∈ tblG) (hi0 : Cond.instanceMethod ⟨owner, x.name, x.desc⟩ ∈ tblG) (hse : Cond.selects C x q2.2.1 ∈ tblG) (h2 : Cond.instanceMethod q2.2.1 ∈ tblG) (h4 : Cond.initialized q2.2.1.cls ∈ tblG) (h5 : Cond.code q2.2.1 q2.2.2.1 q2.2.2.2.1 q2.2.2.2.2 ∈ tblG)
    (h0 : Cond.code ⟨owner, x.name, x.desc⟩ b0 m0 r0 ∈ tblG) (hd : owner ≠ "java/lang/invoke/MethodHandle" ∧ owner ≠ "java/lang/invoke/VarHandle" ∧ (parseMethodDescriptor x.desc).map (fun d => d.parameters.length) = some n) :
    CallTo q q2 (.invokevirtual idx) (n + 1) (some (some C)) := by
  intro p l e R s m args below meth c H locs cells slots mc ms rm Pc Qc free Vs rest ls pc S hnw hca hM hrc hrs hf hlo hbl hPc hr hn hsz hW hdg hroom
  obtain ⟨b, As, cell, rfl, g1, g2, g3⟩ := hr
  have hT : GoodIn tblG (va_wsO q.1 idx C owner x q2.2.1 (wsM q2)) := good_of (fun w hw => by
    rcases List.mem_append.mp hw with h | h
    · simp only [List.mem_cons, List.not_mem_nil, or_false] at h
      rcases h with rfl | rfl | rfl | rfl | rfl | rfl <;> assumption
    · exact wsM_in h5 w h)
  exact va_runU (As := As) (rest := rest) S hM (va_cwO n S.2.2.2.2 hT rfl hrc hrs h0 hd ⟨hf, hlo⟩) ⟨hbl, ⟨cell, g1, g2, g3⟩, fun U hU hW => hPc U hU hW⟩ rfl (by simpa using hn) hsz (by simp [F0]) (lv_room hW) hdg hroom
/-- super.m(..) -/
theorem ct_SU {q q2 : MM} {idx n k : Nat} {r : vw_C} (h1 : Cond.methodLink q.1 idx q2.2.1 ∈ tblG) (hsm : Cond.sameMethod q2.2.1.cls q2.2.1.cls q2.2.1.name q2.2.1.desc ∈ tblG) (hsu : Cond.superclass q.1 q2.2.1.cls ∈ tblG) (h2 : Cond.instanceMethod q2.2.1 ∈ tblG) (h4 : Cond.initialized q2.2.1.cls ∈ tblG) (h5 : Cond.code q2.2.1 q2.2.2.1 q2.2.2.2.1 q2.2.2.2.2 ∈ tblG) (hno : q2.2.1.name ≠ "<init>") (hd : (parseMethodDescriptor q2.2.1.desc).map (fun d => d.parameters.length) = some n) (hk : clL[k]? = some r) :
    CallTo q q2 (.invokespecial idx) (n + 1) (some (some r.1)) := by
  intro p l e R s m args below meth c H locs cells slots mc ms rm Pc Qc free Vs rest ls pc S hnw hca hM hrc hrs hf hlo hbl hPc hr hn hsz hW hdg hroom
  obtain ⟨b, As, cell, rfl, g1, g2, g3⟩ := hr
  obtain ⟨cC, hat⟩ := hca k r hk
  have hT : GoodIn tblG (va_wsSU q.1 idx q2.2.1 (wsM q2)) := good_of (fun w hw => by
    rcases List.mem_append.mp hw with h | h
    · simp only [List.mem_cons, List.not_mem_nil, or_false] at h
      rcases h with rfl | rfl | rfl | rfl | rfl <;> assumption
    · exact wsM_in h5 w h)
  exact va_runSU (As := As) (rest := rest) hat S hM (va_cwSU n S.2.2.2.2 hT rfl hrc hrs ⟨hno, hd⟩ ⟨hf, hlo⟩) ⟨hbl, ⟨cell, g1, g2, g3⟩, fun U hU hW => hPc U hU hW⟩ rfl (by simpa using hn) hsz (by simp [F0]) (lv_room hW) hdg hroom
section CALL
variable {G : GG} {T : TT} {q : MM} {d pc : Nat} {L : LL} {h : AH} {bc bs : Nat} {Q : QQ}
/-- what the call site asks, seen from the abstract heap -/
def rcA (T : TT) (h : AH) : Option (Option String) → List Value → Prop
  | none, _ => True
  | some none, Vs => ∃ (b : Nat) (As : List Value), Vs = .ref b :: As
  | some (some C), Vs => ∃ (b : Nat) (As : List Value) (c : Nat) (F : u_T) (N : Nat), Vs = .ref b :: As ∧ ((vA T h b ∧ (rS T h b).1 = c ∧ c < 100 ∧ clL[c]? = some (C, F, N)) ∨ (∃ i, b = 1000000 + i ∧ i < 13 ∧ C = "java/lang/String"))
theorem A_call {q2 : MM} {ins : Instr} {n : Nat} {rc : Option (Option String)} (Vs rest : List Value) {st : List Value} {mc ms : Nat} (hct : CallTo q q2 ins n rc) (hd : decode q.2.2.1 pc = .ok (ins, 3)) (hst : st = Vs.reverse ++ rest) (hn : Vs.length = n) (hml : q2.2.2.2.1 ≤ 21) (hsum : (rest.map fun v => v.category).sum ≤ 8) (hr : rcA T h rc Vs) (hmc : mc ≤ bc) (hms : ms ≤ bs)
    (kk : WP G T q2 d Vs h mc ms (fun v h' => Att G T q (d + 1) (pc + 3) L (v.toList ++ rest) h' (bc - mc) (bs - ms) Q)) : Att G T q (d + 1) pc L st h bc bs Q := by
  intro p e R s m args below meth cc H locs cells slots KK Zs ls hC hH hS hl hc1 hc2 hk1 hk2 hE
  have hts := hC.2.2.2.2.2.1
  have hK := hC.2.2.2.2.2.2.1
  have hSW := hC.2.2.2.2.2.2.2.1
  have hgb := hC.2.2.2.2.2.2.2.2.1
  have hd1 := hC.2.2.2.2.2.2.2.2.2.1
  have hd2 := hC.2.2.2.2.2.2.2.2.2.2
  have hPc : ∀ U : State, U.heap = H → s.WarmedH U.vm → PcW G T Vs h mc (Vs.map (cv G)).toArray U := fun U hU hW => by
    refine ⟨rfl, by rw [hU]; exact hH, hK.moved hW.alike, ?_, by rw [hU]; exact Nat.le_trans hgb hS.1, by omega⟩
    exact hSW.step hW (fun a h1 h2 => by rw [hU]; exact hS.2.1 a h1 h2)
  have hbl : FrameBlind (PcW G T Vs h mc) := fun a U g mk hp => by
    obtain ⟨p1, p2, p3, p4, p5, p6⟩ := hp
    have hWU : U.WarmedH (U.calling g mk a).vm := State.WarmedH.refl U
    exact ⟨p1, p2, p3.moved hWU.alike, p4.step hWU (fun _ _ _ => rfl), p5, p6⟩
  have hrc : rcOK s H rc (Vs.map (cv G)) := by
    match rc, hr with
    | none, _ => trivial
    | some none, ⟨b, As, e9⟩ => exact ⟨ga G b, As.map (cv G), by rw [e9]; rfl⟩
    | some (some C), ⟨b, As, c, F, N, e9, hor⟩ =>
      rcases hor with ⟨hvb, hsc, hc100, hcl⟩ | ⟨i, rfl, hi, rfl⟩
      · have hvB : b < nC T h := hvb
        have hP := hH.P hvb
        rw [ent_o hsc hc100] at hP
        obtain ⟨cell, g1, g2, g3⟩ := va_recv hK hP (ci := c) (q0 := 0) hcl rfl
        exact ⟨ga G b, As.map (cv G), cell, by rw [e9]; rfl, by rw [ga_lt (by omega)]; exact g1, g2, g3⟩
      · obtain ⟨cell, g1, g2, g3⟩ := vk_recv hSW.2.2.2.2.1 hi hS
        exact ⟨ga G (1000000 + i), As.map (cv G), cell, by rw [e9]; rfl, by rw [ga_sp]; exact g1, g2, g3⟩
  have hrun := hct p G.1 e R s m args below meth cc H locs cells slots mc ms _ _ _ _ (Vs.map (cv G)) (rest.map (cv G)) ls pc ⟨hC.1, hC.2.1, hC.2.2.1, hC.2.2.2.1, hts⟩ hSW.1 (fun k r hk => ⟨_, (hK.1 k r hk).2⟩) kk rfl rfl (by show d + 1 ≤ _; omega) (by show 8 + _ + 40 * d ≤ _; omega) hbl hPc hrc (by rw [List.length_map]; exact hn) hl.1 (by rw [sum_cv]; exact hsum) hd ⟨by omega, by omega⟩
  have est : st.map (cv G) = (Vs.map (cv G)).reverse ++ rest.map (cv G) := by rw [hst, List.map_append, List.map_reverse]
  rw [est]
  intro Tt hT X
  obtain ⟨v, st₀, t, T', Lc, h0, X', hL, e1, e2, ⟨⟨v', h', hv, hq, hH', hn'⟩, hF⟩, stp⟩ := hrun Tt hT X
  have hvv : v = v'.map (cv G) := by cases hv; rfl
  subst hvv
  obtain ⟨hz, hk⟩ := hF
  rw [h0] at hz hk
  have hS' : va_S (fr G) s.heap T'.heap (locs ++ Lc) := ⟨Nat.le_trans hS.1 (by rw [e1]; exact hz), fun a h1 h2 => by rw [e1, hk a (Nat.lt_of_lt_of_le h1 hS.1) h2]; exact hS.2.1 a h1 h2, fun a ha => (List.mem_append.mp ha).elim (fun h9 => hS.2.2 a h9) (fun h9 => hL a h9)⟩
  have := hq p e R s m args below meth cc T'.heap (locs ++ Lc) (cells + mc) (slots + ms) KK Zs ls hC (by rw [e1]; exact hH') hS' hl (by omega) (by omega) (by omega) hk2 hE
  obtain ⟨t2, a1, b1⟩ := this T' rfl X'
  refine ⟨t2, stp t2 ?_, b1⟩
  have ev : (Option.map (cv G) v').toList ++ rest.map (cv G) = (v'.toList ++ rest).map (cv G) := by cases v' <;> simp
  rw [ev]
  exact a1
end CALL
end
section
/-! answers by their type; fewer locals; weaker ends -/
def iQ (Q : Int32 → AH → Prop) : QQ := fun v h => match v with
  | some (.int x) => Q x h
  | _ => False
def lQ (Q : Int64 → AH → Prop) : QQ := fun v h => match v with
  | some (.long x) => Q x h
  | _ => False
def rQ (Q : Nat → AH → Prop) : QQ := fun v h => match v with
  | some (.ref x) => Q x h
  | _ => False
def vQ (Q : AH → Prop) : QQ := fun v h => match v with
  | none => Q h
  | _ => False
theorem WP.mono {G : GG} {T : TT} {q : MM} {d : Nat} {Vs : List Value} {h : AH} {mc ms : Nat} {Q Q' : QQ} (k : WP G T q d Vs h mc ms Q) (hQ : ∀ v h', Q v h' → Q' v h') : WP G T q d Vs h mc ms Q' := by
  intro p e h1 h2 h3 s m args below h4 h5 h6 h7
  obtain ⟨n, o, g1, g2, g3, ⟨⟨v, h', e9, hq, hr⟩, hF⟩, hL⟩ := k p e h1 h2 h3 s m args below h4 h5 h6 h7
  exact ⟨n, o, g1, g2, g3, ⟨⟨v, h', e9, hQ v h' hq, hr⟩, hF⟩, hL⟩
def subL : LL → LL → Prop
  | [], _ => True
  | none :: l, [] => subL l []
  | none :: l, _ :: m => subL l m
  | some _ :: _, [] => False
  | some v :: l, w :: m => some v = w ∧ subL l m
theorem subL_nth : ∀ {l m : LL}, subL l m → ∀ {k : Nat} {v : Value}, nth l k = some v → nth m k = some v := by
  intro l
  induction l with
  | nil => intro m _ k v h; cases h
  | cons a l ih =>
    intro m hs k v h
    cases a with
    | none =>
      cases m with
      | nil =>
        cases k with
        | zero => cases h
        | succ k => exact absurd (ih (m := []) hs (k := k) (v := v) h) (by simp [nth])
      | cons b m =>
        cases k with
        | zero => cases h
        | succ k => exact ih (m := m) hs h
    | some w =>
      cases m with
      | nil => exact hs.elim
      | cons b m =>
        cases k with
        | zero => cases h; exact hs.1.symm
        | succ k => exact ih (m := m) hs.2 h
section TYPED
variable {G : GG} {T : TT} {q : MM} {d pc : Nat} {L : LL} {st : List Value} {h : AH} {bc bs : Nat} {Q : QQ}
theorem A_sub {L' : LL} (hs : subL L' L) (k : Att G T q d pc L' st h bc bs Q) : Att G T q d pc L st h bc bs Q := by
  intro p e R s m args below meth c H locs cells slots KK Zs ls hC hH hS hl hc1 hc2 hk1 hk2 hE
  refine k p e R s m args below meth c H locs cells slots KK Zs ls hC hH hS ⟨hl.1, hl.2.1, fun x hx => ?_⟩ hc1 hc2 hk1 hk2 hE
  obtain ⟨j, v, rfl, hv⟩ := asc_of hx
  rw [Nat.zero_add]
  exact lr_get hl (subL_nth hs hv)
theorem A_callI {q2 : MM} {ins : Instr} {n : Nat} {rc : Option (Option String)} {Qc : Int32 → AH → Prop} (Vs rest : List Value) (hct : CallTo q q2 ins n rc) (hd : decode q.2.2.1 pc = .ok (ins, 3)) (hst : st = Vs.reverse ++ rest) (hn : Vs.length = n) (hml : q2.2.2.2.1 ≤ 21) (hsum : (rest.map fun v => v.category).sum ≤ 8) (hr : rcA T h rc Vs) (mc ms : Nat) (hmc : mc ≤ bc) (hms : ms ≤ bs)
    (hw : WP G T q2 d Vs h mc ms (iQ Qc)) (kk : ∀ r h', Qc r h' → Att G T q (d + 1) (pc + 3) L (.int r :: rest) h' (bc - mc) (bs - ms) Q) : Att G T q (d + 1) pc L st h bc bs Q := by
  refine A_call Vs rest hct hd hst hn hml hsum hr hmc hms (hw.mono (fun v h' z => ?_))
  match v, z with
  | some (.int x), z => exact kk x h' z
theorem A_callL {q2 : MM} {ins : Instr} {n : Nat} {rc : Option (Option String)} {Qc : Int64 → AH → Prop} (Vs rest : List Value) (hct : CallTo q q2 ins n rc) (hd : decode q.2.2.1 pc = .ok (ins, 3)) (hst : st = Vs.reverse ++ rest) (hn : Vs.length = n) (hml : q2.2.2.2.1 ≤ 21) (hsum : (rest.map fun v => v.category).sum ≤ 8) (hr : rcA T h rc Vs) (mc ms : Nat) (hmc : mc ≤ bc) (hms : ms ≤ bs)
    (hw : WP G T q2 d Vs h mc ms (lQ Qc)) (kk : ∀ r h', Qc r h' → Att G T q (d + 1) (pc + 3) L (.long r :: rest) h' (bc - mc) (bs - ms) Q) : Att G T q (d + 1) pc L st h bc bs Q := by
  refine A_call Vs rest hct hd hst hn hml hsum hr hmc hms (hw.mono (fun v h' z => ?_))
  match v, z with
  | some (.long x), z => exact kk x h' z
theorem A_callR {q2 : MM} {ins : Instr} {n : Nat} {rc : Option (Option String)} {Qc : Nat → AH → Prop} (Vs rest : List Value) (hct : CallTo q q2 ins n rc) (hd : decode q.2.2.1 pc = .ok (ins, 3)) (hst : st = Vs.reverse ++ rest) (hn : Vs.length = n) (hml : q2.2.2.2.1 ≤ 21) (hsum : (rest.map fun v => v.category).sum ≤ 8) (hr : rcA T h rc Vs) (mc ms : Nat) (hmc : mc ≤ bc) (hms : ms ≤ bs)
    (hw : WP G T q2 d Vs h mc ms (rQ Qc)) (kk : ∀ r h', Qc r h' → Att G T q (d + 1) (pc + 3) L (.ref r :: rest) h' (bc - mc) (bs - ms) Q) : Att G T q (d + 1) pc L st h bc bs Q := by
  refine A_call Vs rest hct hd hst hn hml hsum hr hmc hms (hw.mono (fun v h' z => ?_))
  match v, z with
  | some (.ref x), z => exact kk x h' z
theorem A_callV {q2 : MM} {ins : Instr} {n : Nat} {rc : Option (Option String)} {Qc : AH → Prop} (Vs rest : List Value) (hct : CallTo q q2 ins n rc) (hd : decode q.2.2.1 pc = .ok (ins, 3)) (hst : st = Vs.reverse ++ rest) (hn : Vs.length = n) (hml : q2.2.2.2.1 ≤ 21) (hsum : (rest.map fun v => v.category).sum ≤ 8) (hr : rcA T h rc Vs) (mc ms : Nat) (hmc : mc ≤ bc) (hms : ms ≤ bs)
    (hw : WP G T q2 d Vs h mc ms (vQ Qc)) (kk : ∀ h', Qc h' → Att G T q (d + 1) (pc + 3) L rest h' (bc - mc) (bs - ms) Q) : Att G T q (d + 1) pc L st h bc bs Q := by
  refine A_call Vs rest hct hd hst hn hml hsum hr hmc hms (hw.mono (fun v h' z => ?_))
  match v, z with
  | none, z => exact kk h' z
theorem rcA_o {Vs As : List Value} {b c : Nat} {C : String} {F : u_T} {N : Nat} (e : Vs = .ref b :: As) (ha : vA T h b) (hs : (rS T h b).1 = c) (hc : c < 100) (hcl : clL[c]? = some (C, F, N)) : rcA T h (some (some C)) Vs := ⟨b, As, c, F, N, e, Or.inl ⟨ha, hs, hc, hcl⟩⟩
theorem rcA_s {Vs As : List Value} {i : Nat} (e : Vs = .ref (1000000 + i) :: As) (hi : i < 13) : rcA T h (some (some "java/lang/String")) Vs := ⟨_, As, 0, F_Aunt, 0, e, Or.inr ⟨i, rfl, hi, rfl⟩⟩
/-- a literal address of the fixed part -/
theorem vA_s {a : Nat} (ha : a < T.2.2) : vA T h a := Nat.lt_of_lt_of_le ha (Nat.le_add_right _ _)
end TYPED
end
section
/-! the fixed part once both objects stand: refs, shapes (printed by wip/gen/t1.py) -/
def tblR : List (List (Option Nat)) := [[some 2, some 3, some 4, some 5, some 6, some 10, some 14, some 26], [], [some 34, some 37, some 40, some 43, some 46, some 49], [some 52, some 54, some 56, some 58], [], [some 7, some 8, some 9], [], [], [], [some 11, some 12, some 13], [], [], [], [some 15, some 19, some 20, some 21, some 22, some 23, some 24, some 25], [some 16, some 17, some 18], [], [], [], [], [], [], [], [], [], [], [], [], [], [], [], [], [], [], [some 35, some 36], [], [], [some 38, some 39], [], [], [some 41, some 42], [], [], [some 44, some 45], [], [], [some 47, some 48], [], [], [some 50, some 51], [], [], [some 53], [], [some 55], [], [some 57], [], [some 59], [], [none, some 61, some 62, some 63, some 64, some 65, some 66, some 67, none, some 68, some 69, none, none, none, none, none, some 70, some 71, some 72, some 73, some 74, none, none, none, none, some 75, some 76, none, none, none, some 77, some 78, some 79, some 80, some 81, some 82, some 83, none, none, some 84], [], [], [], [], [], [], [], [], [], [], [], [], [], [], [], [], [], [], [], [], [], [], [], []]
def tblS : List (Option (Nat × Nat)) := [some (11, 11), some (101, 7), some (102, 6), some (103, 4), some (100, 160), some (10, 5), some (100, 7), some (100, 7), some (100, 7), some (10, 5), some (100, 7), some (100, 7), some (100, 7), some (2, 9), some (10, 5), some (100, 7), some (100, 7), some (100, 7), some (101, 7), some (100, 7), some (100, 7), some (100, 7), some (100, 7), some (100, 6), some (100, 160), some (7, 7), some (4, 3), some (4, 3), some (4, 3), some (4, 3), some (4, 3), some (4, 3), some (4, 3), some (6, 3), some (100, 160), some (100, 4), some (6, 3), some (100, 160), some (100, 4), some (6, 3), some (100, 160), some (100, 4), some (6, 3), some (100, 160), some (100, 4), some (6, 3), some (100, 160), some (100, 4), some (6, 3), some (100, 160), some (100, 4), some (8, 3), some (100, 40), some (8, 3), some (100, 40), some (8, 3), some (100, 40), some (8, 3), some (100, 40), some (12, 40), some (100, 7), some (100, 7), some (100, 7), some (100, 7), some (100, 7), some (100, 7), some (100, 160), some (100, 1200), some (100, 24), some (100, 21), some (100, 4), some (100, 4), some (100, 160), some (100, 58), some (100, 96), some (100, 200), some (100, 200), some (100, 6), some (100, 7), some (100, 7), some (100, 7), some (100, 7), some (100, 7), some (100, 7)]
def T1 : TT := (fun a k => nthN (nthN tblR a []) k none, fun a => nthN tblS a none, 84)
/-- nothing fixed -/
def T0 : TT := (fun _ _ => none, fun _ => none, 0)
theorem nthN_ge {α : Type} : ∀ (l : List α) (k : Nat) (z : α), l.length ≤ k → nthN l k z = z := by
  intro l
  induction l with
  | nil => intro k z _; rfl
  | cons a l ih =>
    intro k z h
    cases k with
    | zero => exact absurd h (by simp)
    | succ k => exact ih k z (by simpa using h)
/-- a class of the houses' family -/
abbrev famP (c : Nat) : Prop := c = 0 ∨ c = 1 ∨ c = 3 ∨ c = 4 ∨ c = 5 ∨ c = 9
def famA (T : TT) (h : AH) (a : Nat) : Prop := vA T h a ∧ famP (rS T h a).1
theorem vR_pos {x : Nat} (h : 0 < x) : vR x = .ref (x - 1) := by
  cases x with
  | zero => exact absurd h (Nat.lt_irrefl 0)
  | succ x => rfl
theorem pos_sub {x : Nat} (h : 0 < x) : x = x - 1 + 1 := by omega
theorem rS_ex {T : TT} {h : AH} {a c : Nat} (e : (rS T h a).1 = c) : rS T h a = (c, (rS T h a).2) := by subst e; rfl
theorem fam_fty {c k : Nat} (hc : famP c) (hk : k < 3) : fty c k = 0 := by
  match k, hk with
  | 0, _ => rcases hc with rfl | rfl | rfl | rfl | rfl | rfl <;> rfl
  | 1, _ => rcases hc with rfl | rfl | rfl | rfl | rfl | rfl <;> rfl
  | 2, _ => rcases hc with rfl | rfl | rfl | rfl | rfl | rfl <;> rfl
section TOPS
variable {G : GG} {T : TT} {q : MM} {d pc : Nat} {L : LL} {st : List Value} {h : AH} {bc bs : Nat} {Q : QQ}
theorem A_getH {a idx k : Nat} (hd : decode q.2.2.1 pc = .ok (.getfield idx, 3)) (hF : ∀ c, famP c → FOK q.1 idx c k) (hA : famA T h a) (kk : Att G T q d (pc + 3) L (.int (h.1 a (Int32.ofNat k)) :: st) h bc bs Q) (hk : k < 3 := by decide) : Att G T q d pc L (.ref a :: st) h bc bs Q := by
  refine A_get hd (hF _ hA.2) hA.1 rfl ?_ kk
  rw [fam_fty hA.2 hk]
  rfl
theorem fam_asg {c : Nat} (hc : famP c) : asgOK c 0 := by
  rcases hc with rfl | rfl | rfl | rfl | rfl | rfl
  · exact ⟨_, _, _, _, rfl, rfl, Or.inr (by decide +kernel)⟩
  · exact ⟨_, _, _, _, rfl, rfl, Or.inr (by decide +kernel)⟩
  · exact ⟨_, _, _, _, rfl, rfl, Or.inr (by decide +kernel)⟩
  · exact ⟨_, _, _, _, rfl, rfl, Or.inl rfl⟩
  · exact ⟨_, _, _, _, rfl, rfl, Or.inr (by decide +kernel)⟩
  · exact ⟨_, _, _, _, rfl, rfl, Or.inr (by decide +kernel)⟩
theorem fam_lt {c : Nat} (hc : famP c) : c < 100 := by rcases hc with rfl | rfl | rfl | rfl | rfl | rfl <;> decide
theorem A_aastH {a n b : Nat} {i : Int32} (hd : decode q.2.2.1 pc = .ok (.aastore, 1)) (ha : vA T h a) (hs : rS T h a = (101, n)) (hi : inb i n) (hb : famA T h b) (hdyn : T.1 a i.toNatClampNeg = none) (kk : Att G T q d (pc + 1) L st (wR h a i.toNatClampNeg (b + 1)) bc bs Q) : Att G T q d pc L (.ref b :: .int i :: .ref a :: st) h bc bs Q :=
  A_aast (t := 0) hd (by decide) ha hs hi hb.1 rfl (fam_lt hb.2) (fam_asg hb.2) hdyn kk
theorem A_cI {q2 : MM} {ins : Instr} {n : Nat} {rc : Option (Option String)} {Qc : Int32 → AH → Prop} (Vs rest : List Value) (hct : CallTo q q2 ins n rc) (hd : decode q.2.2.1 pc = .ok (ins, 3)) (hst : st = Vs.reverse ++ rest) (hn : Vs.length = n) (hml : q2.2.2.2.1 ≤ 21) (hsum : (rest.map fun v => v.category).sum ≤ 8) (hr : rcA T h rc Vs)
    (hw : WP G T q2 d Vs h 0 0 (iQ Qc)) (kk : ∀ r h', Qc r h' → Att G T q (d + 1) (pc + 3) L (.int r :: rest) h' bc bs Q) : Att G T q (d + 1) pc L st h bc bs Q := A_callI Vs rest hct hd hst hn hml hsum hr 0 0 (Nat.zero_le _) (Nat.zero_le _) hw kk
theorem A_cL {q2 : MM} {ins : Instr} {n : Nat} {rc : Option (Option String)} {Qc : Int64 → AH → Prop} (Vs rest : List Value) (hct : CallTo q q2 ins n rc) (hd : decode q.2.2.1 pc = .ok (ins, 3)) (hst : st = Vs.reverse ++ rest) (hn : Vs.length = n) (hml : q2.2.2.2.1 ≤ 21) (hsum : (rest.map fun v => v.category).sum ≤ 8) (hr : rcA T h rc Vs)
    (hw : WP G T q2 d Vs h 0 0 (lQ Qc)) (kk : ∀ r h', Qc r h' → Att G T q (d + 1) (pc + 3) L (.long r :: rest) h' bc bs Q) : Att G T q (d + 1) pc L st h bc bs Q := A_callL Vs rest hct hd hst hn hml hsum hr 0 0 (Nat.zero_le _) (Nat.zero_le _) hw kk
theorem A_cR {q2 : MM} {ins : Instr} {n : Nat} {rc : Option (Option String)} {Qc : Nat → AH → Prop} (Vs rest : List Value) (hct : CallTo q q2 ins n rc) (hd : decode q.2.2.1 pc = .ok (ins, 3)) (hst : st = Vs.reverse ++ rest) (hn : Vs.length = n) (hml : q2.2.2.2.1 ≤ 21) (hsum : (rest.map fun v => v.category).sum ≤ 8) (hr : rcA T h rc Vs)
    (hw : WP G T q2 d Vs h 0 0 (rQ Qc)) (kk : ∀ r h', Qc r h' → Att G T q (d + 1) (pc + 3) L (.ref r :: rest) h' bc bs Q) : Att G T q (d + 1) pc L st h bc bs Q := A_callR Vs rest hct hd hst hn hml hsum hr 0 0 (Nat.zero_le _) (Nat.zero_le _) hw kk
theorem A_cV {q2 : MM} {ins : Instr} {n : Nat} {rc : Option (Option String)} {Qc : AH → Prop} (Vs rest : List Value) (hct : CallTo q q2 ins n rc) (hd : decode q.2.2.1 pc = .ok (ins, 3)) (hst : st = Vs.reverse ++ rest) (hn : Vs.length = n) (hml : q2.2.2.2.1 ≤ 21) (hsum : (rest.map fun v => v.category).sum ≤ 8) (hr : rcA T h rc Vs)
    (hw : WP G T q2 d Vs h 0 0 (vQ Qc)) (kk : ∀ h', Qc h' → Att G T q (d + 1) (pc + 3) L rest h' bc bs Q) : Att G T q (d + 1) pc L st h bc bs Q := A_callV Vs rest hct hd hst hn hml hsum hr 0 0 (Nat.zero_le _) (Nat.zero_le _) hw kk
end TOPS
end
section
abbrev m_UF_init : MM := (R_UF, ⟨R_UF, "<init>", "()V"⟩, prog_1_method_1_code, 2, none)
abbrev m_Obj_init : MM := ("java/lang/Object", ⟨"java/lang/Object", "<init>", "()V"⟩, object_method_1_code, 1, none)
abbrev m_Town_init : MM := (R_Town, ⟨R_Town, "<init>", "()V"⟩, prog_12_method_1_code, 1, none)
abbrev m_Dusk_init : MM := (R_Dusk, ⟨R_Dusk, "<init>", "()V"⟩, prog_4_method_1_code, 1, none)
abbrev m_Reader_init : MM := (R_Reader, ⟨R_Reader, "<init>", "()V"⟩, prog_9_method_1_code, 1, none)
abbrev m_House_init : MM := (R_House, ⟨R_House, "<init>", "(III)V"⟩, prog_6_method_1_code, 4, none)
abbrev m_Law_init : MM := (R_Law, ⟨R_Law, "<init>", "()V"⟩, prog_8_method_1_code, 1, none)
abbrev m_Sheet_init : MM := (R_Sheet, ⟨R_Sheet, "<init>", "()V"⟩, prog_10_method_1_code, 1, none)
abbrev m_Str_length : MM := ("java/lang/String", ⟨"java/lang/String", "length", "()I"⟩, prog_17_method_54_code, 1, (some .int))
abbrev m_Str_coder : MM := ("java/lang/String", ⟨"java/lang/String", "coder", "()B"⟩, prog_17_method_152_code, 1, (some .byte))
abbrev m_Str_charAt : MM := ("java/lang/String", ⟨"java/lang/String", "charAt", "(I)C"⟩, prog_17_method_56_code, 2, (some .char))
abbrev m_Str_isLatin1 : MM := ("java/lang/String", ⟨"java/lang/String", "isLatin1", "()Z"⟩, prog_17_method_154_code, 1, (some .boolean))
abbrev m_Lat_charAt : MM := ("java/lang/StringLatin1", ⟨"java/lang/StringLatin1", "charAt", "([BI)C"⟩, prog_18_method_2_code, 2, (some .char))
abbrev m_Str_checkIndex : MM := ("java/lang/String", ⟨"java/lang/String", "checkIndex", "(II)V"⟩, prog_17_method_155_code, 2, none)
abbrev m_Prec_checkIndex : MM := ("jdk/internal/util/Preconditions", ⟨"jdk/internal/util/Preconditions", "checkIndex", "(IILjava/util/function/BiFunction;)I"⟩, prog_21_method_11_code, 3, (some .int))
abbrev m_Utf_charAt : MM := ("java/lang/StringUTF16", ⟨"java/lang/StringUTF16", "charAt", "([BI)C"⟩, prog_19_method_83_code, 2, (some .char))
abbrev m_Utf_checkIndex : MM := ("java/lang/StringUTF16", ⟨"java/lang/StringUTF16", "checkIndex", "(I[B)V"⟩, prog_19_method_91_code, 2, none)
abbrev m_Utf_length : MM := ("java/lang/StringUTF16", ⟨"java/lang/StringUTF16", "length", "([B)I"⟩, prog_19_method_6_code, 1, (some .int))
abbrev m_Utf_getChar : MM := ("java/lang/StringUTF16", ⟨"java/lang/StringUTF16", "getChar", "([BI)C"⟩, prog_19_method_5_code, 2, (some .char))
abbrev m_Reader_read : MM := (R_Reader, ⟨R_Reader, "read", "([IILUpperFloors$Law;)I"⟩, prog_9_method_2_code, 5, (some .int))
abbrev m_Math_min : MM := ("java/lang/Math", ⟨"java/lang/Math", "min", "(II)I"⟩, prog_16_method_69_code, 2, (some .int))
abbrev m_Reader_next : MM := (R_Reader, ⟨R_Reader, "next", "()V"⟩, prog_9_method_11_code, 1, none)
abbrev m_Reader_isLetter : MM := (R_Reader, ⟨R_Reader, "isLetter", "(I)Z"⟩, prog_9_method_17_code, 1, (some .boolean))
abbrev m_UF_within : MM := (R_UF, ⟨R_UF, "within", "(III)Z"⟩, prog_1_method_37_code, 3, (some .boolean))
abbrev m_Reader_word : MM := (R_Reader, ⟨R_Reader, "word", "()V"⟩, prog_9_method_12_code, 1, none)
abbrev m_Reader_isWord : MM := (R_Reader, ⟨R_Reader, "isWord", "(Ljava/lang/String;)Z"⟩, prog_9_method_14_code, 3, (some .boolean))
abbrev m_Reader_nameRead : MM := (R_Reader, ⟨R_Reader, "nameRead", "()I"⟩, prog_9_method_13_code, 1, (some .int))
abbrev m_Reader_isDigit : MM := (R_Reader, ⟨R_Reader, "isDigit", "(I)Z"⟩, prog_9_method_18_code, 1, (some .boolean))
abbrev m_Reader_number : MM := (R_Reader, ⟨R_Reader, "number", "()V"⟩, prog_9_method_15_code, 1, none)
abbrev m_Reader_sign : MM := (R_Reader, ⟨R_Reader, "sign", "()V"⟩, prog_9_method_16_code, 3, none)
abbrev m_Reader_take : MM := (R_Reader, ⟨R_Reader, "take", "(I)Z"⟩, prog_9_method_3_code, 2, (some .boolean))
abbrev m_Reader_either : MM := (R_Reader, ⟨R_Reader, "either", "(I)Z"⟩, prog_9_method_4_code, 3, (some .boolean))
abbrev m_Reader_both : MM := (R_Reader, ⟨R_Reader, "both", "(I)Z"⟩, prog_9_method_5_code, 3, (some .boolean))
abbrev m_Reader_unless : MM := (R_Reader, ⟨R_Reader, "unless", "(I)Z"⟩, prog_9_method_6_code, 2, (some .boolean))
abbrev m_Reader_compared : MM := (R_Reader, ⟨R_Reader, "compared", "(I)Z"⟩, prog_9_method_7_code, 3, (some .boolean))
abbrev m_Reader_sum : MM := (R_Reader, ⟨R_Reader, "sum", "(I)Z"⟩, prog_9_method_8_code, 4, (some .boolean))
abbrev m_Reader_term : MM := (R_Reader, ⟨R_Reader, "term", "(I)Z"⟩, prog_9_method_9_code, 3, (some .boolean))
abbrev m_Reader_one : MM := (R_Reader, ⟨R_Reader, "one", "(I)Z"⟩, prog_9_method_10_code, 3, (some .boolean))
abbrev m_Law_add : MM := (R_Law, ⟨R_Law, "add", "(I)V"⟩, prog_8_method_2_code, 2, none)
abbrev m_Law_addName : MM := (R_Law, ⟨R_Law, "addName", "(I)V"⟩, prog_8_method_3_code, 2, none)
abbrev m_UF_count : MM := (R_UF, ⟨R_UF, "count", "(I)I"⟩, prog_1_method_2_code, 2, (some .int))
abbrev m_Town_chains : MM := (R_Town, ⟨R_Town, "chains", "()I"⟩, prog_12_method_8_code, 3, (some .int))
abbrev m_Town_leads : MM := (R_Town, ⟨R_Town, "leads", "(I)Z"⟩, prog_12_method_6_code, 2, (some .boolean))
abbrev m_Town_crowd : MM := (R_Town, ⟨R_Town, "crowd", "()I"⟩, prog_12_method_9_code, 3, (some .int))
abbrev m_UF_feed : MM := (R_UF, ⟨R_UF, "feed", "(IIIIII)I"⟩, prog_1_method_3_code, 7, (some .int))
abbrev m_UF_isByte : MM := (R_UF, ⟨R_UF, "isByte", "(I)Z"⟩, prog_1_method_38_code, 1, (some .boolean))
abbrev m_UF_put : MM := (R_UF, ⟨R_UF, "put", "(I)V"⟩, prog_1_method_43_code, 2, none)
abbrev m_UF_text : MM := (R_UF, ⟨R_UF, "text", "()I"⟩, prog_1_method_4_code, 2, (some .int))
abbrev m_UF_force : MM := (R_UF, ⟨R_UF, "force", "(I)I"⟩, prog_1_method_5_code, 3, (some .int))
abbrev m_UF_asks : MM := (R_UF, ⟨R_UF, "asks", "(III)I"⟩, prog_1_method_6_code, 4, (some .int))
abbrev m_UF_isHouse : MM := (R_UF, ⟨R_UF, "isHouse", "(I)Z"⟩, prog_1_method_42_code, 2, (some .boolean))
abbrev m_UF_ready : MM := (R_UF, ⟨R_UF, "ready", "()V"⟩, prog_1_method_47_code, 1, none)
abbrev m_Dusk_begin : MM := (R_Dusk, ⟨R_Dusk, "begin", "(LUpperFloors$Town;[LUpperFloors$House;LUpperFloors$Law;)V"⟩, prog_4_method_2_code, 5, none)
abbrev m_Town_become : MM := (R_Town, ⟨R_Town, "become", "(LUpperFloors$Town;)V"⟩, prog_12_method_2_code, 2, none)
abbrev m_Dusk_says : MM := (R_Dusk, ⟨R_Dusk, "says", "(IIII)I"⟩, prog_4_method_12_code, 5, (some .int))
abbrev m_Law_answer : MM := (R_Law, ⟨R_Law, "answer", "(I[I[I)I"⟩, prog_8_method_4_code, 7, (some .int))
abbrev m_Law_signed : MM := (R_Law, ⟨R_Law, "signed", "(II)I"⟩, prog_8_method_5_code, 2, (some .int))
abbrev m_Law_joined : MM := (R_Law, ⟨R_Law, "joined", "(III)I"⟩, prog_8_method_6_code, 3, (some .int))
abbrev m_Math_max : MM := ("java/lang/Math", ⟨"java/lang/Math", "max", "(II)I"⟩, prog_16_method_65_code, 2, (some .int))
abbrev m_UF_house : MM := (R_UF, ⟨R_UF, "house", "(III)I"⟩, prog_1_method_7_code, 4, (some .int))
abbrev m_UF_settle : MM := (R_UF, ⟨R_UF, "settle", "(III)I"⟩, prog_1_method_44_code, 4, (some .int))
abbrev m_UF_build : MM := (R_UF, ⟨R_UF, "build", "(III)LUpperFloors$House;"⟩, prog_1_method_45_code, 3, (some (.object "UpperFloors$House")))
abbrev m_Heavy_init : MM := (R_Heavy, ⟨R_Heavy, "<init>", "(III)V"⟩, prog_5_method_1_code, 4, none)
abbrev m_Braked_init : MM := (R_Braked, ⟨R_Braked, "<init>", "(III)V"⟩, prog_3_method_1_code, 4, none)
abbrev m_Aunt_init : MM := (R_Aunt, ⟨R_Aunt, "<init>", "(III)V"⟩, prog_2_method_1_code, 4, none)
abbrev m_Stuck_init : MM := (R_Stuck, ⟨R_Stuck, "<init>", "(III)V"⟩, prog_11_method_1_code, 4, none)
abbrev m_Late_init : MM := (R_Late, ⟨R_Late, "<init>", "(III)V"⟩, prog_7_method_1_code, 4, none)
abbrev m_Town_grow : MM := (R_Town, ⟨R_Town, "grow", "()V"⟩, prog_12_method_3_code, 1, none)
abbrev m_UF_set : MM := (R_UF, ⟨R_UF, "set", "(III)I"⟩, prog_1_method_8_code, 5, (some .int))
abbrev m_UF_chain : MM := (R_UF, ⟨R_UF, "chain", "(II)I"⟩, prog_1_method_9_code, 4, (some .int))
abbrev m_Town_join : MM := (R_Town, ⟨R_Town, "join", "(II)V"⟩, prog_12_method_5_code, 3, none)
abbrev m_Town_loosen : MM := (R_Town, ⟨R_Town, "loosen", "(I)V"⟩, prog_12_method_4_code, 3, none)
abbrev m_UF_told : MM := (R_UF, ⟨R_UF, "told", "(II)I"⟩, prog_1_method_10_code, 3, (some .int))
abbrev m_UF_of : MM := (R_UF, ⟨R_UF, "of", "(III)I"⟩, prog_1_method_11_code, 4, (some .int))
abbrev m_UF_isSpan : MM := (R_UF, ⟨R_UF, "isSpan", "(I)Z"⟩, prog_1_method_39_code, 1, (some .boolean))
abbrev m_Dusk_go : MM := (R_Dusk, ⟨R_Dusk, "go", "(I)V"⟩, prog_4_method_3_code, 3, none)
abbrev m_Dusk_pass : MM := (R_Dusk, ⟨R_Dusk, "pass", "(II)V"⟩, prog_4_method_5_code, 4, none)
abbrev m_Dusk_alone : MM := (R_Dusk, ⟨R_Dusk, "alone", "(II)V"⟩, prog_4_method_6_code, 4, none)
abbrev m_Late_isFree : MM := (R_Late, ⟨R_Late, "isFree", "(II)Z"⟩, prog_7_method_3_code, 3, (some .boolean))
abbrev m_Stuck_isFree : MM := (R_Stuck, ⟨R_Stuck, "isFree", "(II)Z"⟩, prog_11_method_2_code, 3, (some .boolean))
abbrev m_House_isFree : MM := (R_House, ⟨R_House, "isFree", "(II)Z"⟩, prog_6_method_4_code, 3, (some .boolean))
abbrev m_Dusk_weighs : MM := (R_Dusk, ⟨R_Dusk, "weighs", "(II)I"⟩, prog_4_method_10_code, 3, (some .int))
abbrev m_Aunt_weighsBy : MM := (R_Aunt, ⟨R_Aunt, "weighsBy", "(II)I"⟩, prog_2_method_2_code, 4, (some .int))
abbrev m_Heavy_weighsBy : MM := (R_Heavy, ⟨R_Heavy, "weighsBy", "(II)I"⟩, prog_5_method_2_code, 3, (some .int))
abbrev m_Late_weighsBy : MM := (R_Late, ⟨R_Late, "weighsBy", "(II)I"⟩, prog_7_method_2_code, 3, (some .int))
abbrev m_House_weighsBy : MM := (R_House, ⟨R_House, "weighsBy", "(II)I"⟩, prog_6_method_2_code, 3, (some .int))
abbrev m_Dusk_holds : MM := (R_Dusk, ⟨R_Dusk, "holds", "(II)I"⟩, prog_4_method_11_code, 3, (some .int))
abbrev m_Braked_holdsBy : MM := (R_Braked, ⟨R_Braked, "holdsBy", "(I)I"⟩, prog_3_method_2_code, 2, (some .int))
abbrev m_House_holdsBy : MM := (R_House, ⟨R_House, "holdsBy", "(I)I"⟩, prog_6_method_3_code, 2, (some .int))
abbrev m_Dusk_sink : MM := (R_Dusk, ⟨R_Dusk, "sink", "(II)V"⟩, prog_4_method_8_code, 3, none)
abbrev m_Dusk_pair : MM := (R_Dusk, ⟨R_Dusk, "pair", "(IIZ)V"⟩, prog_4_method_7_code, 9, none)
abbrev m_Math_abs : MM := ("java/lang/Math", ⟨"java/lang/Math", "abs", "(I)I"⟩, prog_16_method_59_code, 1, (some .int))
abbrev m_Dusk_rise : MM := (R_Dusk, ⟨R_Dusk, "rise", "(I)V"⟩, prog_4_method_9_code, 2, none)
abbrev m_UF_all : MM := (R_UF, ⟨R_UF, "all", "(II)I"⟩, prog_1_method_12_code, 3, (some .int))
abbrev m_Town_downBits : MM := (R_Town, ⟨R_Town, "downBits", "()I"⟩, prog_12_method_11_code, 3, (some .int))
abbrev m_Town_isDown : MM := (R_Town, ⟨R_Town, "isDown", "(I)Z"⟩, prog_12_method_7_code, 2, (some .boolean))
abbrev m_Dusk_hitsTogether : MM := (R_Dusk, ⟨R_Dusk, "hitsTogether", "()I"⟩, prog_4_method_13_code, 3, (some .int))
abbrev m_Town_highTogether : MM := (R_Town, ⟨R_Town, "highTogether", "()I"⟩, prog_12_method_10_code, 3, (some .int))
abbrev m_Dusk_stillBits : MM := (R_Dusk, ⟨R_Dusk, "stillBits", "()I"⟩, prog_4_method_14_code, 3, (some .int))
abbrev m_UF_when : MM := (R_UF, ⟨R_UF, "when", "(I)I"⟩, prog_1_method_13_code, 2, (some .int))
abbrev m_Dusk_firstDown : MM := (R_Dusk, ⟨R_Dusk, "firstDown", "(I)I"⟩, prog_4_method_4_code, 3, (some .int))
abbrev m_UF_first : MM := (R_UF, ⟨R_UF, "first", "(I)I"⟩, prog_1_method_14_code, 7, (some .int))
abbrev m_UF_bring : MM := (R_UF, ⟨R_UF, "bring", "(II)I"⟩, prog_1_method_15_code, 4, (some .int))
abbrev m_UF_weight : MM := (R_UF, ⟨R_UF, "weight", "(III)I"⟩, prog_1_method_16_code, 8, (some .int))
abbrev m_Town_downCount : MM := (R_Town, ⟨R_Town, "downCount", "()I"⟩, prog_12_method_12_code, 1, (some .int))
abbrev m_Integer_bitCount : MM := ("java/lang/Integer", ⟨"java/lang/Integer", "bitCount", "(I)I"⟩, prog_15_method_49_code, 1, (some .int))
abbrev m_UF_over : MM := (R_UF, ⟨R_UF, "over", "(II)I"⟩, prog_1_method_17_code, 8, (some .int))
abbrev m_UF_link : MM := (R_UF, ⟨R_UF, "link", "(II)I"⟩, prog_1_method_18_code, 8, (some .int))
abbrev m_UF_frees : MM := (R_UF, ⟨R_UF, "frees", "(III)I"⟩, prog_1_method_19_code, 7, (some .int))
abbrev m_UF_hang : MM := (R_UF, ⟨R_UF, "hang", "(III)I"⟩, prog_1_method_20_code, 8, (some .int))
abbrev m_UF_night : MM := (R_UF, ⟨R_UF, "night", "(I)I"⟩, prog_1_method_21_code, 3, (some .int))
abbrev m_UF_dawn : MM := (R_UF, ⟨R_UF, "dawn", "(I)I"⟩, prog_1_method_22_code, 5, (some .int))
abbrev m_UF_judge : MM := (R_UF, ⟨R_UF, "judge", "(II)I"⟩, prog_1_method_23_code, 4, (some .int))
abbrev m_UF_tellingRefusal : MM := (R_UF, ⟨R_UF, "tellingRefusal", "(I)I"⟩, prog_1_method_46_code, 2, (some .int))
abbrev m_UF_isSheet : MM := (R_UF, ⟨R_UF, "isSheet", "(I)Z"⟩, prog_1_method_40_code, 1, (some .boolean))
abbrev m_Sheet_firstOtherwise : MM := (R_Sheet, ⟨R_Sheet, "firstOtherwise", "(LUpperFloors$Town;)I"⟩, prog_10_method_5_code, 3, (some .int))
abbrev m_UF_times : MM := (R_UF, ⟨R_UF, "times", "(I)I"⟩, prog_1_method_24_code, 5, (some .int))
abbrev m_UF_laws : MM := (R_UF, ⟨R_UF, "laws", "(II)I"⟩, prog_1_method_25_code, 6, (some .int))
abbrev m_UF_thief : MM := (R_UF, ⟨R_UF, "thief", "(III)I"⟩, prog_1_method_26_code, 7, (some .int))
abbrev m_UF_film : MM := (R_UF, ⟨R_UF, "film", "(II)I"⟩, prog_1_method_27_code, 4, (some .int))
abbrev m_Sheet_renew : MM := (R_Sheet, ⟨R_Sheet, "renew", "(II)V"⟩, prog_10_method_2_code, 4, none)
abbrev m_Sheet_write : MM := (R_Sheet, ⟨R_Sheet, "write", "(II)V"⟩, prog_10_method_4_code, 3, none)
abbrev m_Sheet_has : MM := (R_Sheet, ⟨R_Sheet, "has", "(I)Z"⟩, prog_10_method_3_code, 2, (some .boolean))
abbrev m_UF_drawn : MM := (R_UF, ⟨R_UF, "drawn", "(III)I"⟩, prog_1_method_28_code, 4, (some .int))
abbrev m_UF_isDraw : MM := (R_UF, ⟨R_UF, "isDraw", "(III)Z"⟩, prog_1_method_41_code, 3, (some .boolean))
abbrev m_UF_drawnDown : MM := (R_UF, ⟨R_UF, "drawnDown", "(III)I"⟩, prog_1_method_48_code, 9, (some .int))
abbrev m_UF_odds : MM := (R_UF, ⟨R_UF, "odds", "(IIII)J"⟩, prog_1_method_29_code, 8, (some .long))
abbrev m_UF_image : MM := (R_UF, ⟨R_UF, "image", "()I"⟩, prog_1_method_30_code, 1, (some .int))
abbrev m_UF_back : MM := (R_UF, ⟨R_UF, "back", "()I"⟩, prog_1_method_31_code, 1, (some .int))
abbrev m_UF_sheet : MM := (R_UF, ⟨R_UF, "sheet", "(III)I"⟩, prog_1_method_32_code, 4, (some .int))
abbrev m_UF_cell : MM := (R_UF, ⟨R_UF, "cell", "(III)I"⟩, prog_1_method_33_code, 4, (some .int))
abbrev m_UF_copy : MM := (R_UF, ⟨R_UF, "copy", "(IIIII)I"⟩, prog_1_method_34_code, 8, (some .int))
abbrev m_UF_housesBy : MM := (R_UF, ⟨R_UF, "housesBy", "(IIII)I"⟩, prog_1_method_35_code, 9, (some .int))
abbrev m_UF_taken : MM := (R_UF, ⟨R_UF, "taken", "(II)I"⟩, prog_1_method_36_code, 5, (some .int))
abbrev m_House_isOf : MM := (R_House, ⟨R_House, "isOf", "(I)Z"⟩, prog_6_method_5_code, 2, (some .boolean))
abbrev m_MO_init : MM := (R_MO, ⟨R_MO, "<init>", "()V"⟩, prog_14_method_1_code, 2, none)
abbrev m_MO_text : MM := (R_MO, ⟨R_MO, "text", "()I"⟩, prog_14_method_22_code, 3, (some .int))
abbrev m_MO_next : MM := (R_MO, ⟨R_MO, "next", "()V"⟩, prog_14_method_13_code, 3, none)
abbrev m_MO_in : MM := (R_MO, ⟨R_MO, "in", "(III)Z"⟩, prog_14_method_3_code, 3, (some .boolean))
abbrev m_MO_wordFrom : MM := (R_MO, ⟨R_MO, "wordFrom", "(II)I"⟩, prog_14_method_12_code, 6, (some .int))
abbrev m_MO_eRead : MM := (R_MO, ⟨R_MO, "eRead", "()Z"⟩, prog_14_method_21_code, 4, (some .boolean))
abbrev m_MO_puts : MM := (R_MO, ⟨R_MO, "puts", "(I)V"⟩, prog_14_method_15_code, 2, none)
abbrev m_MO_unwinds : MM := (R_MO, ⟨R_MO, "unwinds", "(I)V"⟩, prog_14_method_16_code, 3, none)
abbrev m_MO_rank : MM := (R_MO, ⟨R_MO, "rank", "(I)I"⟩, prog_14_method_14_code, 1, (some .int))
abbrev m_MO_opensOne : MM := (R_MO, ⟨R_MO, "opensOne", "(I)Z"⟩, prog_14_method_18_code, 2, (some .boolean))
abbrev m_MO_holds : MM := (R_MO, ⟨R_MO, "holds", "(I)V"⟩, prog_14_method_17_code, 2, none)
abbrev m_MO_signOf : MM := (R_MO, ⟨R_MO, "signOf", "()I"⟩, prog_14_method_20_code, 1, (some .int))
abbrev m_MO_between : MM := (R_MO, ⟨R_MO, "between", "(I)Z"⟩, prog_14_method_19_code, 2, (some .boolean))
abbrev m_MO_count : MM := (R_MO, ⟨R_MO, "count", "(I)I"⟩, prog_14_method_9_code, 2, (some .int))
abbrev m_MO_chains : MM := (R_MO, ⟨R_MO, "chains", "()I"⟩, prog_14_method_7_code, 3, (some .int))
abbrev m_MO_isLesser : MM := (R_MO, ⟨R_MO, "isLesser", "(I)Z"⟩, prog_14_method_6_code, 2, (some .boolean))
abbrev m_MO_peopleAll : MM := (R_MO, ⟨R_MO, "peopleAll", "()I"⟩, prog_14_method_8_code, 3, (some .int))
abbrev m_MO_feed : MM := (R_MO, ⟨R_MO, "feed", "(IIIIII)I"⟩, prog_14_method_11_code, 8, (some .int))
abbrev m_MO_isByte : MM := (R_MO, ⟨R_MO, "isByte", "(I)Z"⟩, prog_14_method_10_code, 1, (some .boolean))
abbrev m_MO_force : MM := (R_MO, ⟨R_MO, "force", "(I)I"⟩, prog_14_method_25_code, 3, (some .int))
abbrev m_MO_asks : MM := (R_MO, ⟨R_MO, "asks", "(III)I"⟩, prog_14_method_28_code, 4, (some .int))
abbrev m_MO_isHouse : MM := (R_MO, ⟨R_MO, "isHouse", "(I)Z"⟩, prog_14_method_5_code, 2, (some .boolean))
abbrev m_MO_isMany : MM := (R_MO, ⟨R_MO, "isMany", "(I)Z"⟩, prog_14_method_27_code, 1, (some .boolean))
abbrev m_MO_asksOf : MM := (R_MO, ⟨R_MO, "asksOf", "(IIIII)I"⟩, prog_14_method_26_code, 6, (some .int))
abbrev m_MO_says : MM := (R_MO, ⟨R_MO, "says", "(I)I"⟩, prog_14_method_24_code, 5, (some .int))
abbrev m_MO_two : MM := (R_MO, ⟨R_MO, "two", "(III)I"⟩, prog_14_method_23_code, 3, (some .int))
abbrev m_MO_within : MM := (R_MO, ⟨R_MO, "within", "(III)I"⟩, prog_14_method_4_code, 3, (some .int))
abbrev m_MO_house : MM := (R_MO, ⟨R_MO, "house", "(III)I"⟩, prog_14_method_29_code, 4, (some .int))
abbrev m_MO_set : MM := (R_MO, ⟨R_MO, "set", "(III)I"⟩, prog_14_method_30_code, 5, (some .int))
abbrev m_MO_chain : MM := (R_MO, ⟨R_MO, "chain", "(II)I"⟩, prog_14_method_33_code, 4, (some .int))
abbrev m_MO_links : MM := (R_MO, ⟨R_MO, "links", "(II)V"⟩, prog_14_method_32_code, 3, none)
abbrev m_MO_comesFree : MM := (R_MO, ⟨R_MO, "comesFree", "(I)V"⟩, prog_14_method_31_code, 3, none)
abbrev m_MO_told : MM := (R_MO, ⟨R_MO, "told", "(II)I"⟩, prog_14_method_34_code, 3, (some .int))
abbrev m_MO_of : MM := (R_MO, ⟨R_MO, "of", "(III)I"⟩, prog_14_method_45_code, 4, (some .int))
abbrev m_MO_lives : MM := (R_MO, ⟨R_MO, "lives", "(I)V"⟩, prog_14_method_44_code, 2, none)
abbrev m_MO_livesBy : MM := (R_MO, ⟨R_MO, "livesBy", "(I)V"⟩, prog_14_method_43_code, 3, none)
abbrev m_MO_minute : MM := (R_MO, ⟨R_MO, "minute", "(I)V"⟩, prog_14_method_42_code, 3, none)
abbrev m_MO_alone : MM := (R_MO, ⟨R_MO, "alone", "(II)V"⟩, prog_14_method_39_code, 3, none)
abbrev m_MO_isFree : MM := (R_MO, ⟨R_MO, "isFree", "(II)Z"⟩, prog_14_method_37_code, 3, (some .boolean))
abbrev m_MO_weighs : MM := (R_MO, ⟨R_MO, "weighs", "(II)I"⟩, prog_14_method_35_code, 6, (some .int))
abbrev m_MO_holdsIt : MM := (R_MO, ⟨R_MO, "holdsIt", "(II)I"⟩, prog_14_method_36_code, 4, (some .int))
abbrev m_MO_goesDown : MM := (R_MO, ⟨R_MO, "goesDown", "(II)V"⟩, prog_14_method_38_code, 3, none)
abbrev m_MO_catches : MM := (R_MO, ⟨R_MO, "catches", "()Z"⟩, prog_14_method_41_code, 1, (some .boolean))
abbrev m_MO_chained : MM := (R_MO, ⟨R_MO, "chained", "(IIIZ)V"⟩, prog_14_method_40_code, 11, none)
abbrev m_MO_all : MM := (R_MO, ⟨R_MO, "all", "(II)I"⟩, prog_14_method_47_code, 3, (some .int))
abbrev m_MO_sumOf : MM := (R_MO, ⟨R_MO, "sumOf", "(I)I"⟩, prog_14_method_46_code, 4, (some .int))
abbrev m_MO_when : MM := (R_MO, ⟨R_MO, "when", "(I)I"⟩, prog_14_method_49_code, 2, (some .int))
abbrev m_MO_whenOf : MM := (R_MO, ⟨R_MO, "whenOf", "(I)I"⟩, prog_14_method_48_code, 3, (some .int))
abbrev m_MO_first : MM := (R_MO, ⟨R_MO, "first", "(I)I"⟩, prog_14_method_50_code, 7, (some .int))
abbrev m_MO_bring : MM := (R_MO, ⟨R_MO, "bring", "(II)I"⟩, prog_14_method_53_code, 6, (some .int))
abbrev m_MO_weight : MM := (R_MO, ⟨R_MO, "weight", "(III)I"⟩, prog_14_method_54_code, 8, (some .int))
abbrev m_MO_downs : MM := (R_MO, ⟨R_MO, "downs", "(I)I"⟩, prog_14_method_51_code, 2, (some .int))
abbrev m_MO_downNow : MM := (R_MO, ⟨R_MO, "downNow", "()I"⟩, prog_14_method_52_code, 3, (some .int))
abbrev m_MO_over : MM := (R_MO, ⟨R_MO, "over", "(II)I"⟩, prog_14_method_55_code, 8, (some .int))
abbrev m_MO_link : MM := (R_MO, ⟨R_MO, "link", "(II)I"⟩, prog_14_method_58_code, 8, (some .int))
abbrev m_MO_keeps : MM := (R_MO, ⟨R_MO, "keeps", "()V"⟩, prog_14_method_56_code, 2, none)
abbrev m_MO_laysBack : MM := (R_MO, ⟨R_MO, "laysBack", "()V"⟩, prog_14_method_57_code, 2, none)
abbrev m_MO_frees : MM := (R_MO, ⟨R_MO, "frees", "(III)I"⟩, prog_14_method_59_code, 9, (some .int))
abbrev m_MO_hang : MM := (R_MO, ⟨R_MO, "hang", "(III)I"⟩, prog_14_method_60_code, 10, (some .int))
abbrev m_MO_night : MM := (R_MO, ⟨R_MO, "night", "(I)I"⟩, prog_14_method_61_code, 3, (some .int))
abbrev m_MO_dawn : MM := (R_MO, ⟨R_MO, "dawn", "(I)I"⟩, prog_14_method_62_code, 5, (some .int))
abbrev m_MO_judge : MM := (R_MO, ⟨R_MO, "judge", "(II)I"⟩, prog_14_method_66_code, 4, (some .int))
abbrev m_MO_toldWrong : MM := (R_MO, ⟨R_MO, "toldWrong", "(II)I"⟩, prog_14_method_64_code, 4, (some .int))
abbrev m_MO_sheetWrong : MM := (R_MO, ⟨R_MO, "sheetWrong", "(I)I"⟩, prog_14_method_63_code, 2, (some .int))
abbrev m_MO_unlike : MM := (R_MO, ⟨R_MO, "unlike", "(II)I"⟩, prog_14_method_65_code, 4, (some .int))
abbrev m_MO_times : MM := (R_MO, ⟨R_MO, "times", "(I)I"⟩, prog_14_method_67_code, 5, (some .int))
abbrev m_MO_laws : MM := (R_MO, ⟨R_MO, "laws", "(II)I"⟩, prog_14_method_68_code, 7, (some .int))
abbrev m_MO_thief : MM := (R_MO, ⟨R_MO, "thief", "(III)I"⟩, prog_14_method_69_code, 8, (some .int))
abbrev m_MO_film : MM := (R_MO, ⟨R_MO, "film", "(II)I"⟩, prog_14_method_70_code, 4, (some .int))
abbrev m_MO_drawn : MM := (R_MO, ⟨R_MO, "drawn", "(III)I"⟩, prog_14_method_73_code, 4, (some .int))
abbrev m_MO_isDrawn : MM := (R_MO, ⟨R_MO, "isDrawn", "(III)Z"⟩, prog_14_method_72_code, 3, (some .boolean))
abbrev m_MO_downsBy : MM := (R_MO, ⟨R_MO, "downsBy", "(III)I"⟩, prog_14_method_71_code, 4, (some .int))
abbrev m_MO_odds : MM := (R_MO, ⟨R_MO, "odds", "(IIII)J"⟩, prog_14_method_75_code, 8, (some .long))
abbrev m_MO_lowest : MM := (R_MO, ⟨R_MO, "lowest", "(JJI)J"⟩, prog_14_method_74_code, 11, (some .long))
abbrev m_MO_image : MM := (R_MO, ⟨R_MO, "image", "()I"⟩, prog_14_method_76_code, 2, (some .int))
abbrev m_MO_back : MM := (R_MO, ⟨R_MO, "back", "()I"⟩, prog_14_method_77_code, 2, (some .int))
abbrev m_MO_sheet : MM := (R_MO, ⟨R_MO, "sheet", "(III)I"⟩, prog_14_method_78_code, 5, (some .int))
abbrev m_MO_cell : MM := (R_MO, ⟨R_MO, "cell", "(III)I"⟩, prog_14_method_79_code, 4, (some .int))
abbrev m_MO_copy : MM := (R_MO, ⟨R_MO, "copy", "(IIIII)I"⟩, prog_14_method_80_code, 10, (some .int))
abbrev m_MO_housesBy : MM := (R_MO, ⟨R_MO, "housesBy", "(IIII)I"⟩, prog_14_method_81_code, 9, (some .int))
abbrev m_MO_taken : MM := (R_MO, ⟨R_MO, "taken", "(II)I"⟩, prog_14_method_83_code, 4, (some .int))
abbrev m_MO_isUnder : MM := (R_MO, ⟨R_MO, "isUnder", "(II)Z"⟩, prog_14_method_82_code, 2, (some .boolean))
theorem ck_Aunt : CLK 0 R_Aunt F_Aunt := ⟨rfl, by decide, i_Aunt, ⟨t_Aunt, t_Aunt_ok⟩, n_Aunt⟩
theorem ft_0_0 : FTY 0 0 (t_Aunt 0) true "UpperFloors$House" := ⟨_, _, _, rfl, by decide +kernel, rfl, rfl⟩
theorem ft_0_1 : FTY 0 1 (t_Aunt 1) true "UpperFloors$House" := ⟨_, _, _, rfl, by decide +kernel, rfl, rfl⟩
theorem ft_0_2 : FTY 0 2 (t_Aunt 2) true "UpperFloors$House" := ⟨_, _, _, rfl, by decide +kernel, rfl, rfl⟩
theorem ck_Braked : CLK 1 R_Braked F_Braked := ⟨rfl, by decide, i_Braked, ⟨t_Braked, t_Braked_ok⟩, n_Braked⟩
theorem ft_1_0 : FTY 1 0 (t_Braked 0) true "UpperFloors$House" := ⟨_, _, _, rfl, by decide +kernel, rfl, rfl⟩
theorem ft_1_1 : FTY 1 1 (t_Braked 1) true "UpperFloors$House" := ⟨_, _, _, rfl, by decide +kernel, rfl, rfl⟩
theorem ft_1_2 : FTY 1 2 (t_Braked 2) true "UpperFloors$House" := ⟨_, _, _, rfl, by decide +kernel, rfl, rfl⟩
theorem ck_Dusk : CLK 2 R_Dusk F_Dusk := ⟨rfl, by decide, i_Dusk, ⟨t_Dusk, t_Dusk_ok⟩, n_Dusk⟩
theorem ft_2_0 : FTY 2 0 (t_Dusk 0) true "UpperFloors$Dusk" := ⟨_, _, _, rfl, by decide +kernel, rfl, rfl⟩
theorem ft_2_1 : FTY 2 1 (t_Dusk 1) true "UpperFloors$Dusk" := ⟨_, _, _, rfl, by decide +kernel, rfl, rfl⟩
theorem ft_2_2 : FTY 2 2 (t_Dusk 2) true "UpperFloors$Dusk" := ⟨_, _, _, rfl, by decide +kernel, rfl, rfl⟩
theorem ft_2_3 : FTY 2 3 (t_Dusk 3) true "UpperFloors$Dusk" := ⟨_, _, _, rfl, by decide +kernel, rfl, rfl⟩
theorem ft_2_4 : FTY 2 4 (t_Dusk 4) true "UpperFloors$Dusk" := ⟨_, _, _, rfl, by decide +kernel, rfl, rfl⟩
theorem ft_2_5 : FTY 2 5 (t_Dusk 5) true "UpperFloors$Dusk" := ⟨_, _, _, rfl, by decide +kernel, rfl, rfl⟩
theorem ft_2_6 : FTY 2 6 (t_Dusk 6) true "UpperFloors$Dusk" := ⟨_, _, _, rfl, by decide +kernel, rfl, rfl⟩
theorem ft_2_7 : FTY 2 7 (t_Dusk 7) true "UpperFloors$Dusk" := ⟨_, _, _, rfl, by decide +kernel, rfl, rfl⟩
theorem ft_2_8 : FTY 2 8 (t_Dusk 8) false "UpperFloors$Dusk" := ⟨_, _, _, rfl, by decide +kernel, rfl, rfl⟩
theorem ck_Heavy : CLK 3 R_Heavy F_Heavy := ⟨rfl, by decide, i_Heavy, ⟨t_Heavy, t_Heavy_ok⟩, n_Heavy⟩
theorem ft_3_0 : FTY 3 0 (t_Heavy 0) true "UpperFloors$House" := ⟨_, _, _, rfl, by decide +kernel, rfl, rfl⟩
theorem ft_3_1 : FTY 3 1 (t_Heavy 1) true "UpperFloors$House" := ⟨_, _, _, rfl, by decide +kernel, rfl, rfl⟩
theorem ft_3_2 : FTY 3 2 (t_Heavy 2) true "UpperFloors$House" := ⟨_, _, _, rfl, by decide +kernel, rfl, rfl⟩
theorem ck_House : CLK 4 R_House F_House := ⟨rfl, by decide, i_House, ⟨t_House, t_House_ok⟩, n_House⟩
theorem ft_4_0 : FTY 4 0 (t_House 0) true "UpperFloors$House" := ⟨_, _, _, rfl, by decide +kernel, rfl, rfl⟩
theorem ft_4_1 : FTY 4 1 (t_House 1) true "UpperFloors$House" := ⟨_, _, _, rfl, by decide +kernel, rfl, rfl⟩
theorem ft_4_2 : FTY 4 2 (t_House 2) true "UpperFloors$House" := ⟨_, _, _, rfl, by decide +kernel, rfl, rfl⟩
theorem ck_Late : CLK 5 R_Late F_Late := ⟨rfl, by decide, i_Late, ⟨t_Late, t_Late_ok⟩, n_Late⟩
theorem ft_5_0 : FTY 5 0 (t_Late 0) true "UpperFloors$House" := ⟨_, _, _, rfl, by decide +kernel, rfl, rfl⟩
theorem ft_5_1 : FTY 5 1 (t_Late 1) true "UpperFloors$House" := ⟨_, _, _, rfl, by decide +kernel, rfl, rfl⟩
theorem ft_5_2 : FTY 5 2 (t_Late 2) true "UpperFloors$House" := ⟨_, _, _, rfl, by decide +kernel, rfl, rfl⟩
theorem ck_Law : CLK 6 R_Law F_Law := ⟨rfl, by decide, i_Law, ⟨t_Law, t_Law_ok⟩, n_Law⟩
theorem ft_6_0 : FTY 6 0 (t_Law 0) true "UpperFloors$Law" := ⟨_, _, _, rfl, by decide +kernel, rfl, rfl⟩
theorem ft_6_1 : FTY 6 1 (t_Law 1) true "UpperFloors$Law" := ⟨_, _, _, rfl, by decide +kernel, rfl, rfl⟩
theorem ft_6_2 : FTY 6 2 (t_Law 2) false "UpperFloors$Law" := ⟨_, _, _, rfl, by decide +kernel, rfl, rfl⟩
theorem ck_Reader : CLK 7 R_Reader F_Reader := ⟨rfl, by decide, i_Reader, ⟨t_Reader, t_Reader_ok⟩, n_Reader⟩
theorem ft_7_0 : FTY 7 0 (t_Reader 0) false "UpperFloors$Reader" := ⟨_, _, _, rfl, by decide +kernel, rfl, rfl⟩
theorem ft_7_1 : FTY 7 1 (t_Reader 1) false "UpperFloors$Reader" := ⟨_, _, _, rfl, by decide +kernel, rfl, rfl⟩
theorem ft_7_2 : FTY 7 2 (t_Reader 2) false "UpperFloors$Reader" := ⟨_, _, _, rfl, by decide +kernel, rfl, rfl⟩
theorem ft_7_3 : FTY 7 3 (t_Reader 3) false "UpperFloors$Reader" := ⟨_, _, _, rfl, by decide +kernel, rfl, rfl⟩
theorem ft_7_4 : FTY 7 4 (t_Reader 4) false "UpperFloors$Reader" := ⟨_, _, _, rfl, by decide +kernel, rfl, rfl⟩
theorem ft_7_5 : FTY 7 5 (t_Reader 5) false "UpperFloors$Reader" := ⟨_, _, _, rfl, by decide +kernel, rfl, rfl⟩
theorem ft_7_6 : FTY 7 6 (t_Reader 6) false "UpperFloors$Reader" := ⟨_, _, _, rfl, by decide +kernel, rfl, rfl⟩
theorem ck_Sheet : CLK 8 R_Sheet F_Sheet := ⟨rfl, by decide, i_Sheet, ⟨t_Sheet, t_Sheet_ok⟩, n_Sheet⟩
theorem ft_8_0 : FTY 8 0 (t_Sheet 0) true "UpperFloors$Sheet" := ⟨_, _, _, rfl, by decide +kernel, rfl, rfl⟩
theorem ft_8_1 : FTY 8 1 (t_Sheet 1) false "UpperFloors$Sheet" := ⟨_, _, _, rfl, by decide +kernel, rfl, rfl⟩
theorem ft_8_2 : FTY 8 2 (t_Sheet 2) false "UpperFloors$Sheet" := ⟨_, _, _, rfl, by decide +kernel, rfl, rfl⟩
theorem ck_Stuck : CLK 9 R_Stuck F_Stuck := ⟨rfl, by decide, i_Stuck, ⟨t_Stuck, t_Stuck_ok⟩, n_Stuck⟩
theorem ft_9_0 : FTY 9 0 (t_Stuck 0) true "UpperFloors$House" := ⟨_, _, _, rfl, by decide +kernel, rfl, rfl⟩
theorem ft_9_1 : FTY 9 1 (t_Stuck 1) true "UpperFloors$House" := ⟨_, _, _, rfl, by decide +kernel, rfl, rfl⟩
theorem ft_9_2 : FTY 9 2 (t_Stuck 2) true "UpperFloors$House" := ⟨_, _, _, rfl, by decide +kernel, rfl, rfl⟩
theorem ck_Town : CLK 10 R_Town F_Town := ⟨rfl, by decide, i_Town, ⟨t_Town, t_Town_ok⟩, n_Town⟩
theorem ft_10_0 : FTY 10 0 (t_Town 0) true "UpperFloors$Town" := ⟨_, _, _, rfl, by decide +kernel, rfl, rfl⟩
theorem ft_10_1 : FTY 10 1 (t_Town 1) true "UpperFloors$Town" := ⟨_, _, _, rfl, by decide +kernel, rfl, rfl⟩
theorem ft_10_2 : FTY 10 2 (t_Town 2) true "UpperFloors$Town" := ⟨_, _, _, rfl, by decide +kernel, rfl, rfl⟩
theorem ft_10_3 : FTY 10 3 (t_Town 3) false "UpperFloors$Town" := ⟨_, _, _, rfl, by decide +kernel, rfl, rfl⟩
theorem ft_10_4 : FTY 10 4 (t_Town 4) false "UpperFloors$Town" := ⟨_, _, _, rfl, by decide +kernel, rfl, rfl⟩
theorem ck_UF : CLK 11 R_UF F_UF := ⟨rfl, by decide, i_UF, ⟨t_UF, t_UF_ok⟩, n_UF⟩
theorem ft_11_0 : FTY 11 0 (t_UF 0) true "UpperFloors" := ⟨_, _, _, rfl, by decide +kernel, rfl, rfl⟩
theorem ft_11_1 : FTY 11 1 (t_UF 1) true "UpperFloors" := ⟨_, _, _, rfl, by decide +kernel, rfl, rfl⟩
theorem ft_11_2 : FTY 11 2 (t_UF 2) true "UpperFloors" := ⟨_, _, _, rfl, by decide +kernel, rfl, rfl⟩
theorem ft_11_3 : FTY 11 3 (t_UF 3) true "UpperFloors" := ⟨_, _, _, rfl, by decide +kernel, rfl, rfl⟩
theorem ft_11_4 : FTY 11 4 (t_UF 4) true "UpperFloors" := ⟨_, _, _, rfl, by decide +kernel, rfl, rfl⟩
theorem ft_11_5 : FTY 11 5 (t_UF 5) true "UpperFloors" := ⟨_, _, _, rfl, by decide +kernel, rfl, rfl⟩
theorem ft_11_6 : FTY 11 6 (t_UF 6) true "UpperFloors" := ⟨_, _, _, rfl, by decide +kernel, rfl, rfl⟩
theorem ft_11_7 : FTY 11 7 (t_UF 7) true "UpperFloors" := ⟨_, _, _, rfl, by decide +kernel, rfl, rfl⟩
theorem ft_11_8 : FTY 11 8 (t_UF 8) false "UpperFloors" := ⟨_, _, _, rfl, by decide +kernel, rfl, rfl⟩
theorem ft_11_9 : FTY 11 9 (t_UF 9) false "UpperFloors" := ⟨_, _, _, rfl, by decide +kernel, rfl, rfl⟩
theorem ft_11_10 : FTY 11 10 (t_UF 10) false "UpperFloors" := ⟨_, _, _, rfl, by decide +kernel, rfl, rfl⟩
theorem ck_MO : CLK 12 R_MO F_MO := ⟨rfl, by decide, i_MO, ⟨t_MO, t_MO_ok⟩, n_MO⟩
theorem ft_12_0 : FTY 12 0 (t_MO 0) false "UpperFloorsModel" := ⟨_, _, _, rfl, by decide +kernel, rfl, rfl⟩
theorem ft_12_1 : FTY 12 1 (t_MO 1) true "UpperFloorsModel" := ⟨_, _, _, rfl, by decide +kernel, rfl, rfl⟩
theorem ft_12_2 : FTY 12 2 (t_MO 2) true "UpperFloorsModel" := ⟨_, _, _, rfl, by decide +kernel, rfl, rfl⟩
theorem ft_12_3 : FTY 12 3 (t_MO 3) true "UpperFloorsModel" := ⟨_, _, _, rfl, by decide +kernel, rfl, rfl⟩
theorem ft_12_4 : FTY 12 4 (t_MO 4) true "UpperFloorsModel" := ⟨_, _, _, rfl, by decide +kernel, rfl, rfl⟩
theorem ft_12_5 : FTY 12 5 (t_MO 5) true "UpperFloorsModel" := ⟨_, _, _, rfl, by decide +kernel, rfl, rfl⟩
theorem ft_12_6 : FTY 12 6 (t_MO 6) true "UpperFloorsModel" := ⟨_, _, _, rfl, by decide +kernel, rfl, rfl⟩
theorem ft_12_7 : FTY 12 7 (t_MO 7) true "UpperFloorsModel" := ⟨_, _, _, rfl, by decide +kernel, rfl, rfl⟩
theorem ft_12_8 : FTY 12 8 (t_MO 8) false "UpperFloorsModel" := ⟨_, _, _, rfl, by decide +kernel, rfl, rfl⟩
theorem ft_12_9 : FTY 12 9 (t_MO 9) true "UpperFloorsModel" := ⟨_, _, _, rfl, by decide +kernel, rfl, rfl⟩
theorem ft_12_10 : FTY 12 10 (t_MO 10) true "UpperFloorsModel" := ⟨_, _, _, rfl, by decide +kernel, rfl, rfl⟩
theorem ft_12_11 : FTY 12 11 (t_MO 11) false "UpperFloorsModel" := ⟨_, _, _, rfl, by decide +kernel, rfl, rfl⟩
theorem ft_12_12 : FTY 12 12 (t_MO 12) false "UpperFloorsModel" := ⟨_, _, _, rfl, by decide +kernel, rfl, rfl⟩
theorem ft_12_13 : FTY 12 13 (t_MO 13) false "UpperFloorsModel" := ⟨_, _, _, rfl, by decide +kernel, rfl, rfl⟩
theorem ft_12_14 : FTY 12 14 (t_MO 14) false "UpperFloorsModel" := ⟨_, _, _, rfl, by decide +kernel, rfl, rfl⟩
theorem ft_12_15 : FTY 12 15 (t_MO 15) false "UpperFloorsModel" := ⟨_, _, _, rfl, by decide +kernel, rfl, rfl⟩
theorem ft_12_16 : FTY 12 16 (t_MO 16) true "UpperFloorsModel" := ⟨_, _, _, rfl, by decide +kernel, rfl, rfl⟩
theorem ft_12_17 : FTY 12 17 (t_MO 17) true "UpperFloorsModel" := ⟨_, _, _, rfl, by decide +kernel, rfl, rfl⟩
theorem ft_12_18 : FTY 12 18 (t_MO 18) true "UpperFloorsModel" := ⟨_, _, _, rfl, by decide +kernel, rfl, rfl⟩
theorem ft_12_19 : FTY 12 19 (t_MO 19) true "UpperFloorsModel" := ⟨_, _, _, rfl, by decide +kernel, rfl, rfl⟩
theorem ft_12_20 : FTY 12 20 (t_MO 20) true "UpperFloorsModel" := ⟨_, _, _, rfl, by decide +kernel, rfl, rfl⟩
theorem ft_12_21 : FTY 12 21 (t_MO 21) false "UpperFloorsModel" := ⟨_, _, _, rfl, by decide +kernel, rfl, rfl⟩
theorem ft_12_22 : FTY 12 22 (t_MO 22) false "UpperFloorsModel" := ⟨_, _, _, rfl, by decide +kernel, rfl, rfl⟩
theorem ft_12_23 : FTY 12 23 (t_MO 23) false "UpperFloorsModel" := ⟨_, _, _, rfl, by decide +kernel, rfl, rfl⟩
theorem ft_12_24 : FTY 12 24 (t_MO 24) false "UpperFloorsModel" := ⟨_, _, _, rfl, by decide +kernel, rfl, rfl⟩
theorem ft_12_25 : FTY 12 25 (t_MO 25) true "UpperFloorsModel" := ⟨_, _, _, rfl, by decide +kernel, rfl, rfl⟩
theorem ft_12_26 : FTY 12 26 (t_MO 26) true "UpperFloorsModel" := ⟨_, _, _, rfl, by decide +kernel, rfl, rfl⟩
theorem ft_12_27 : FTY 12 27 (t_MO 27) false "UpperFloorsModel" := ⟨_, _, _, rfl, by decide +kernel, rfl, rfl⟩
theorem ft_12_28 : FTY 12 28 (t_MO 28) false "UpperFloorsModel" := ⟨_, _, _, rfl, by decide +kernel, rfl, rfl⟩
theorem ft_12_29 : FTY 12 29 (t_MO 29) false "UpperFloorsModel" := ⟨_, _, _, rfl, by decide +kernel, rfl, rfl⟩
theorem ft_12_30 : FTY 12 30 (t_MO 30) true "UpperFloorsModel" := ⟨_, _, _, rfl, by decide +kernel, rfl, rfl⟩
theorem ft_12_31 : FTY 12 31 (t_MO 31) true "UpperFloorsModel" := ⟨_, _, _, rfl, by decide +kernel, rfl, rfl⟩
theorem ft_12_32 : FTY 12 32 (t_MO 32) true "UpperFloorsModel" := ⟨_, _, _, rfl, by decide +kernel, rfl, rfl⟩
theorem ft_12_33 : FTY 12 33 (t_MO 33) true "UpperFloorsModel" := ⟨_, _, _, rfl, by decide +kernel, rfl, rfl⟩
theorem ft_12_34 : FTY 12 34 (t_MO 34) true "UpperFloorsModel" := ⟨_, _, _, rfl, by decide +kernel, rfl, rfl⟩
theorem ft_12_35 : FTY 12 35 (t_MO 35) true "UpperFloorsModel" := ⟨_, _, _, rfl, by decide +kernel, rfl, rfl⟩
theorem ft_12_36 : FTY 12 36 (t_MO 36) true "UpperFloorsModel" := ⟨_, _, _, rfl, by decide +kernel, rfl, rfl⟩
theorem ft_12_37 : FTY 12 37 (t_MO 37) false "UpperFloorsModel" := ⟨_, _, _, rfl, by decide +kernel, rfl, rfl⟩
theorem ft_12_38 : FTY 12 38 (t_MO 38) false "UpperFloorsModel" := ⟨_, _, _, rfl, by decide +kernel, rfl, rfl⟩
theorem ft_12_39 : FTY 12 39 (t_MO 39) true "UpperFloorsModel" := ⟨_, _, _, rfl, by decide +kernel, rfl, rfl⟩
theorem fo_Town_9_10 {o : String} (ho : o = R_Town) : FOK o 9 10 0 := by subst ho; exact ⟨R_Town, F_Town, "UpperFloors$Town", ck_Town, by decide, tG 41 (by decide +kernel) (by decide +kernel), Or.inl rfl⟩
theorem fo_Sheet_29_10 {o : String} (ho : o = R_Sheet) : FOK o 29 10 0 := by subst ho; exact ⟨R_Town, F_Town, "UpperFloors$Town", ck_Town, by decide, tG 42 (by decide +kernel) (by decide +kernel), Or.inl rfl⟩
theorem fo_Dusk_78_10 {o : String} (ho : o = R_Dusk) : FOK o 78 10 0 := by subst ho; exact ⟨R_Town, F_Town, "UpperFloors$Town", ck_Town, by decide, tG 43 (by decide +kernel) (by decide +kernel), Or.inl rfl⟩
theorem fo_UF_121_10 {o : String} (ho : o = R_UF) : FOK o 121 10 0 := by subst ho; exact ⟨R_Town, F_Town, "UpperFloors$Town", ck_Town, by decide, tG 44 (by decide +kernel) (by decide +kernel), Or.inl rfl⟩
theorem fo_Town_15_10 {o : String} (ho : o = R_Town) : FOK o 15 10 1 := by subst ho; exact ⟨R_Town, F_Town, "UpperFloors$Town", ck_Town, by decide, tG 45 (by decide +kernel) (by decide +kernel), Or.inl rfl⟩
theorem fo_UF_124_10 {o : String} (ho : o = R_UF) : FOK o 124 10 1 := by subst ho; exact ⟨R_Town, F_Town, "UpperFloors$Town", ck_Town, by decide, tG 46 (by decide +kernel) (by decide +kernel), Or.inl rfl⟩
theorem fo_Dusk_118_10 {o : String} (ho : o = R_Dusk) : FOK o 118 10 1 := by subst ho; exact ⟨R_Town, F_Town, "UpperFloors$Town", ck_Town, by decide, tG 47 (by decide +kernel) (by decide +kernel), Or.inl rfl⟩
theorem fo_Town_18_10 {o : String} (ho : o = R_Town) : FOK o 18 10 2 := by subst ho; exact ⟨R_Town, F_Town, "UpperFloors$Town", ck_Town, by decide, tG 48 (by decide +kernel) (by decide +kernel), Or.inl rfl⟩
theorem fo_Dusk_65_10 {o : String} (ho : o = R_Dusk) : FOK o 65 10 2 := by subst ho; exact ⟨R_Town, F_Town, "UpperFloors$Town", ck_Town, by decide, tG 49 (by decide +kernel) (by decide +kernel), Or.inl rfl⟩
theorem fo_UF_127_10 {o : String} (ho : o = R_UF) : FOK o 127 10 2 := by subst ho; exact ⟨R_Town, F_Town, "UpperFloors$Town", ck_Town, by decide, tG 50 (by decide +kernel) (by decide +kernel), Or.inl rfl⟩
theorem fo_Town_21_10 {o : String} (ho : o = R_Town) : FOK o 21 10 3 := by subst ho; exact ⟨R_Town, F_Town, "UpperFloors$Town", ck_Town, by decide, tG 51 (by decide +kernel) (by decide +kernel), Or.inl rfl⟩
theorem fo_UF_80_10 {o : String} (ho : o = R_UF) : FOK o 80 10 3 := by subst ho; exact ⟨R_Town, F_Town, "UpperFloors$Town", ck_Town, by decide, tG 52 (by decide +kernel) (by decide +kernel), Or.inl rfl⟩
theorem fo_Sheet_26_10 {o : String} (ho : o = R_Sheet) : FOK o 26 10 3 := by subst ho; exact ⟨R_Town, F_Town, "UpperFloors$Town", ck_Town, by decide, tG 53 (by decide +kernel) (by decide +kernel), Or.inl rfl⟩
theorem fo_Dusk_61_10 {o : String} (ho : o = R_Dusk) : FOK o 61 10 3 := by subst ho; exact ⟨R_Town, F_Town, "UpperFloors$Town", ck_Town, by decide, tG 54 (by decide +kernel) (by decide +kernel), Or.inl rfl⟩
theorem fo_Town_25_10 {o : String} (ho : o = R_Town) : FOK o 25 10 4 := by subst ho; exact ⟨R_Town, F_Town, "UpperFloors$Town", ck_Town, by decide, tG 55 (by decide +kernel) (by decide +kernel), Or.inl rfl⟩
theorem fo_UF_89_10 {o : String} (ho : o = R_UF) : FOK o 89 10 4 := by subst ho; exact ⟨R_Town, F_Town, "UpperFloors$Town", ck_Town, by decide, tG 56 (by decide +kernel) (by decide +kernel), Or.inl rfl⟩
theorem fo_Dusk_12_2 {o : String} (ho : o = R_Dusk) : FOK o 12 2 0 := by subst ho; exact ⟨R_Dusk, F_Dusk, "UpperFloors$Dusk", ck_Dusk, by decide, tG 78 (by decide +kernel) (by decide +kernel), Or.inl rfl⟩
theorem fo_UF_149_2 {o : String} (ho : o = R_UF) : FOK o 149 2 0 := by subst ho; exact ⟨R_Dusk, F_Dusk, "UpperFloors$Dusk", ck_Dusk, by decide, tG 79 (by decide +kernel) (by decide +kernel), Or.inl rfl⟩
theorem fo_Dusk_20_2 {o : String} (ho : o = R_Dusk) : FOK o 20 2 1 := by subst ho; exact ⟨R_Dusk, F_Dusk, "UpperFloors$Dusk", ck_Dusk, by decide, tG 80 (by decide +kernel) (by decide +kernel), Or.inl rfl⟩
theorem fo_Dusk_24_2 {o : String} (ho : o = R_Dusk) : FOK o 24 2 2 := by subst ho; exact ⟨R_Dusk, F_Dusk, "UpperFloors$Dusk", ck_Dusk, by decide, tG 81 (by decide +kernel) (by decide +kernel), Or.inl rfl⟩
theorem fo_Dusk_28_2 {o : String} (ho : o = R_Dusk) : FOK o 28 2 3 := by subst ho; exact ⟨R_Dusk, F_Dusk, "UpperFloors$Dusk", ck_Dusk, by decide, tG 82 (by decide +kernel) (by decide +kernel), Or.inl rfl⟩
theorem fo_UF_152_2 {o : String} (ho : o = R_UF) : FOK o 152 2 3 := by subst ho; exact ⟨R_Dusk, F_Dusk, "UpperFloors$Dusk", ck_Dusk, by decide, tG 83 (by decide +kernel) (by decide +kernel), Or.inl rfl⟩
theorem fo_Dusk_31_2 {o : String} (ho : o = R_Dusk) : FOK o 31 2 4 := by subst ho; exact ⟨R_Dusk, F_Dusk, "UpperFloors$Dusk", ck_Dusk, by decide, tG 84 (by decide +kernel) (by decide +kernel), Or.inl rfl⟩
theorem fo_UF_158_2 {o : String} (ho : o = R_UF) : FOK o 158 2 4 := by subst ho; exact ⟨R_Dusk, F_Dusk, "UpperFloors$Dusk", ck_Dusk, by decide, tG 85 (by decide +kernel) (by decide +kernel), Or.inl rfl⟩
theorem fo_Dusk_34_2 {o : String} (ho : o = R_Dusk) : FOK o 34 2 5 := by subst ho; exact ⟨R_Dusk, F_Dusk, "UpperFloors$Dusk", ck_Dusk, by decide, tG 86 (by decide +kernel) (by decide +kernel), Or.inl rfl⟩
theorem fo_UF_155_2 {o : String} (ho : o = R_UF) : FOK o 155 2 5 := by subst ho; exact ⟨R_Dusk, F_Dusk, "UpperFloors$Dusk", ck_Dusk, by decide, tG 87 (by decide +kernel) (by decide +kernel), Or.inl rfl⟩
theorem fo_Dusk_39_2 {o : String} (ho : o = R_Dusk) : FOK o 39 2 6 := by subst ho; exact ⟨R_Dusk, F_Dusk, "UpperFloors$Dusk", ck_Dusk, by decide, tG 88 (by decide +kernel) (by decide +kernel), Or.inl rfl⟩
theorem fo_Dusk_42_2 {o : String} (ho : o = R_Dusk) : FOK o 42 2 7 := by subst ho; exact ⟨R_Dusk, F_Dusk, "UpperFloors$Dusk", ck_Dusk, by decide, tG 89 (by decide +kernel) (by decide +kernel), Or.inl rfl⟩
theorem fo_Dusk_49_2 {o : String} (ho : o = R_Dusk) : FOK o 49 2 8 := by subst ho; exact ⟨R_Dusk, F_Dusk, "UpperFloors$Dusk", ck_Dusk, by decide, tG 90 (by decide +kernel) (by decide +kernel), Or.inl rfl⟩
theorem fo_UF_208_2 {o : String} (ho : o = R_UF) : FOK o 208 2 8 := by subst ho; exact ⟨R_Dusk, F_Dusk, "UpperFloors$Dusk", ck_Dusk, by decide, tG 91 (by decide +kernel) (by decide +kernel), Or.inl rfl⟩
theorem fo_Reader_9_7 {o : String} (ho : o = R_Reader) : FOK o 9 7 0 := by subst ho; exact ⟨R_Reader, F_Reader, "UpperFloors$Reader", ck_Reader, by decide, tG 117 (by decide +kernel) (by decide +kernel), Or.inl rfl⟩
theorem fo_Reader_21_7 {o : String} (ho : o = R_Reader) : FOK o 21 7 1 := by subst ho; exact ⟨R_Reader, F_Reader, "UpperFloors$Reader", ck_Reader, by decide, tG 118 (by decide +kernel) (by decide +kernel), Or.inl rfl⟩
theorem fo_Reader_25_7 {o : String} (ho : o = R_Reader) : FOK o 25 7 2 := by subst ho; exact ⟨R_Reader, F_Reader, "UpperFloors$Reader", ck_Reader, by decide, tG 119 (by decide +kernel) (by decide +kernel), Or.inl rfl⟩
theorem fo_Reader_34_7 {o : String} (ho : o = R_Reader) : FOK o 34 7 3 := by subst ho; exact ⟨R_Reader, F_Reader, "UpperFloors$Reader", ck_Reader, by decide, tG 120 (by decide +kernel) (by decide +kernel), Or.inl rfl⟩
theorem fo_Reader_50_7 {o : String} (ho : o = R_Reader) : FOK o 50 7 4 := by subst ho; exact ⟨R_Reader, F_Reader, "UpperFloors$Reader", ck_Reader, by decide, tG 121 (by decide +kernel) (by decide +kernel), Or.inl rfl⟩
theorem fo_Reader_53_7 {o : String} (ho : o = R_Reader) : FOK o 53 7 5 := by subst ho; exact ⟨R_Reader, F_Reader, "UpperFloors$Reader", ck_Reader, by decide, tG 122 (by decide +kernel) (by decide +kernel), Or.inl rfl⟩
theorem fo_Reader_78_7 {o : String} (ho : o = R_Reader) : FOK o 78 7 6 := by subst ho; exact ⟨R_Reader, F_Reader, "UpperFloors$Reader", ck_Reader, by decide, tG 123 (by decide +kernel) (by decide +kernel), Or.inl rfl⟩
theorem fo_House_7_4 {o : String} (ho : o = R_House) : FOK o 7 4 0 := by subst ho; exact ⟨R_House, F_House, "UpperFloors$House", ck_House, by decide, tG 144 (by decide +kernel) (by decide +kernel), Or.inl rfl⟩
theorem fo_House_7_3 {o : String} (ho : o = R_House) : FOK o 7 3 0 := by subst ho; exact ⟨R_Heavy, F_Heavy, "UpperFloors$House", ck_Heavy, by decide, tG 144 (by decide +kernel) (by decide +kernel), Or.inl rfl⟩
theorem fo_House_7_1 {o : String} (ho : o = R_House) : FOK o 7 1 0 := by subst ho; exact ⟨R_Braked, F_Braked, "UpperFloors$House", ck_Braked, by decide, tG 144 (by decide +kernel) (by decide +kernel), Or.inl rfl⟩
theorem fo_House_7_0 {o : String} (ho : o = R_House) : FOK o 7 0 0 := by subst ho; exact ⟨R_Aunt, F_Aunt, "UpperFloors$House", ck_Aunt, by decide, tG 144 (by decide +kernel) (by decide +kernel), Or.inl rfl⟩
theorem fo_House_7_9 {o : String} (ho : o = R_House) : FOK o 7 9 0 := by subst ho; exact ⟨R_Stuck, F_Stuck, "UpperFloors$House", ck_Stuck, by decide, tG 144 (by decide +kernel) (by decide +kernel), Or.inl rfl⟩
theorem fo_House_7_5 {o : String} (ho : o = R_House) : FOK o 7 5 0 := by subst ho; exact ⟨R_Late, F_Late, "UpperFloors$House", ck_Late, by decide, tG 144 (by decide +kernel) (by decide +kernel), Or.inl rfl⟩
theorem foh_House_7 {o : String} (ho : o = R_House) : ∀ c, famP c → FOK o 7 c 0 := by
  intro c hc
  rcases hc with rfl | rfl | rfl | rfl | rfl | rfl
  · exact fo_House_7_0 ho
  · exact fo_House_7_1 ho
  · exact fo_House_7_3 ho
  · exact fo_House_7_4 ho
  · exact fo_House_7_5 ho
  · exact fo_House_7_9 ho
theorem fo_UF_134_4 {o : String} (ho : o = R_UF) : FOK o 134 4 0 := by subst ho; exact ⟨R_House, F_House, "UpperFloors$House", ck_House, by decide, tG 145 (by decide +kernel) (by decide +kernel), Or.inl rfl⟩
theorem fo_UF_134_3 {o : String} (ho : o = R_UF) : FOK o 134 3 0 := by subst ho; exact ⟨R_Heavy, F_Heavy, "UpperFloors$House", ck_Heavy, by decide, tG 145 (by decide +kernel) (by decide +kernel), Or.inl rfl⟩
theorem fo_UF_134_1 {o : String} (ho : o = R_UF) : FOK o 134 1 0 := by subst ho; exact ⟨R_Braked, F_Braked, "UpperFloors$House", ck_Braked, by decide, tG 145 (by decide +kernel) (by decide +kernel), Or.inl rfl⟩
theorem fo_UF_134_0 {o : String} (ho : o = R_UF) : FOK o 134 0 0 := by subst ho; exact ⟨R_Aunt, F_Aunt, "UpperFloors$House", ck_Aunt, by decide, tG 145 (by decide +kernel) (by decide +kernel), Or.inl rfl⟩
theorem fo_UF_134_9 {o : String} (ho : o = R_UF) : FOK o 134 9 0 := by subst ho; exact ⟨R_Stuck, F_Stuck, "UpperFloors$House", ck_Stuck, by decide, tG 145 (by decide +kernel) (by decide +kernel), Or.inl rfl⟩
theorem fo_UF_134_5 {o : String} (ho : o = R_UF) : FOK o 134 5 0 := by subst ho; exact ⟨R_Late, F_Late, "UpperFloors$House", ck_Late, by decide, tG 145 (by decide +kernel) (by decide +kernel), Or.inl rfl⟩
theorem foh_UF_134 {o : String} (ho : o = R_UF) : ∀ c, famP c → FOK o 134 c 0 := by
  intro c hc
  rcases hc with rfl | rfl | rfl | rfl | rfl | rfl
  · exact fo_UF_134_0 ho
  · exact fo_UF_134_1 ho
  · exact fo_UF_134_3 ho
  · exact fo_UF_134_4 ho
  · exact fo_UF_134_5 ho
  · exact fo_UF_134_9 ho
theorem fo_House_13_4 {o : String} (ho : o = R_House) : FOK o 13 4 1 := by subst ho; exact ⟨R_House, F_House, "UpperFloors$House", ck_House, by decide, tG 146 (by decide +kernel) (by decide +kernel), Or.inl rfl⟩
theorem fo_House_13_3 {o : String} (ho : o = R_House) : FOK o 13 3 1 := by subst ho; exact ⟨R_Heavy, F_Heavy, "UpperFloors$House", ck_Heavy, by decide, tG 146 (by decide +kernel) (by decide +kernel), Or.inl rfl⟩
theorem fo_House_13_1 {o : String} (ho : o = R_House) : FOK o 13 1 1 := by subst ho; exact ⟨R_Braked, F_Braked, "UpperFloors$House", ck_Braked, by decide, tG 146 (by decide +kernel) (by decide +kernel), Or.inl rfl⟩
theorem fo_House_13_0 {o : String} (ho : o = R_House) : FOK o 13 0 1 := by subst ho; exact ⟨R_Aunt, F_Aunt, "UpperFloors$House", ck_Aunt, by decide, tG 146 (by decide +kernel) (by decide +kernel), Or.inl rfl⟩
theorem fo_House_13_9 {o : String} (ho : o = R_House) : FOK o 13 9 1 := by subst ho; exact ⟨R_Stuck, F_Stuck, "UpperFloors$House", ck_Stuck, by decide, tG 146 (by decide +kernel) (by decide +kernel), Or.inl rfl⟩
theorem fo_House_13_5 {o : String} (ho : o = R_House) : FOK o 13 5 1 := by subst ho; exact ⟨R_Late, F_Late, "UpperFloors$House", ck_Late, by decide, tG 146 (by decide +kernel) (by decide +kernel), Or.inl rfl⟩
theorem foh_House_13 {o : String} (ho : o = R_House) : ∀ c, famP c → FOK o 13 c 1 := by
  intro c hc
  rcases hc with rfl | rfl | rfl | rfl | rfl | rfl
  · exact fo_House_13_0 ho
  · exact fo_House_13_1 ho
  · exact fo_House_13_3 ho
  · exact fo_House_13_4 ho
  · exact fo_House_13_5 ho
  · exact fo_House_13_9 ho
theorem fo_UF_137_4 {o : String} (ho : o = R_UF) : FOK o 137 4 1 := by subst ho; exact ⟨R_House, F_House, "UpperFloors$House", ck_House, by decide, tG 147 (by decide +kernel) (by decide +kernel), Or.inl rfl⟩
theorem fo_UF_137_3 {o : String} (ho : o = R_UF) : FOK o 137 3 1 := by subst ho; exact ⟨R_Heavy, F_Heavy, "UpperFloors$House", ck_Heavy, by decide, tG 147 (by decide +kernel) (by decide +kernel), Or.inl rfl⟩
theorem fo_UF_137_1 {o : String} (ho : o = R_UF) : FOK o 137 1 1 := by subst ho; exact ⟨R_Braked, F_Braked, "UpperFloors$House", ck_Braked, by decide, tG 147 (by decide +kernel) (by decide +kernel), Or.inl rfl⟩
theorem fo_UF_137_0 {o : String} (ho : o = R_UF) : FOK o 137 0 1 := by subst ho; exact ⟨R_Aunt, F_Aunt, "UpperFloors$House", ck_Aunt, by decide, tG 147 (by decide +kernel) (by decide +kernel), Or.inl rfl⟩
theorem fo_UF_137_9 {o : String} (ho : o = R_UF) : FOK o 137 9 1 := by subst ho; exact ⟨R_Stuck, F_Stuck, "UpperFloors$House", ck_Stuck, by decide, tG 147 (by decide +kernel) (by decide +kernel), Or.inl rfl⟩
theorem fo_UF_137_5 {o : String} (ho : o = R_UF) : FOK o 137 5 1 := by subst ho; exact ⟨R_Late, F_Late, "UpperFloors$House", ck_Late, by decide, tG 147 (by decide +kernel) (by decide +kernel), Or.inl rfl⟩
theorem foh_UF_137 {o : String} (ho : o = R_UF) : ∀ c, famP c → FOK o 137 c 1 := by
  intro c hc
  rcases hc with rfl | rfl | rfl | rfl | rfl | rfl
  · exact fo_UF_137_0 ho
  · exact fo_UF_137_1 ho
  · exact fo_UF_137_3 ho
  · exact fo_UF_137_4 ho
  · exact fo_UF_137_5 ho
  · exact fo_UF_137_9 ho
theorem fo_Dusk_115_4 {o : String} (ho : o = R_Dusk) : FOK o 115 4 1 := by subst ho; exact ⟨R_House, F_House, "UpperFloors$House", ck_House, by decide, tG 148 (by decide +kernel) (by decide +kernel), Or.inl rfl⟩
theorem fo_Dusk_115_3 {o : String} (ho : o = R_Dusk) : FOK o 115 3 1 := by subst ho; exact ⟨R_Heavy, F_Heavy, "UpperFloors$House", ck_Heavy, by decide, tG 148 (by decide +kernel) (by decide +kernel), Or.inl rfl⟩
theorem fo_Dusk_115_1 {o : String} (ho : o = R_Dusk) : FOK o 115 1 1 := by subst ho; exact ⟨R_Braked, F_Braked, "UpperFloors$House", ck_Braked, by decide, tG 148 (by decide +kernel) (by decide +kernel), Or.inl rfl⟩
theorem fo_Dusk_115_0 {o : String} (ho : o = R_Dusk) : FOK o 115 0 1 := by subst ho; exact ⟨R_Aunt, F_Aunt, "UpperFloors$House", ck_Aunt, by decide, tG 148 (by decide +kernel) (by decide +kernel), Or.inl rfl⟩
theorem fo_Dusk_115_9 {o : String} (ho : o = R_Dusk) : FOK o 115 9 1 := by subst ho; exact ⟨R_Stuck, F_Stuck, "UpperFloors$House", ck_Stuck, by decide, tG 148 (by decide +kernel) (by decide +kernel), Or.inl rfl⟩
theorem fo_Dusk_115_5 {o : String} (ho : o = R_Dusk) : FOK o 115 5 1 := by subst ho; exact ⟨R_Late, F_Late, "UpperFloors$House", ck_Late, by decide, tG 148 (by decide +kernel) (by decide +kernel), Or.inl rfl⟩
theorem foh_Dusk_115 {o : String} (ho : o = R_Dusk) : ∀ c, famP c → FOK o 115 c 1 := by
  intro c hc
  rcases hc with rfl | rfl | rfl | rfl | rfl | rfl
  · exact fo_Dusk_115_0 ho
  · exact fo_Dusk_115_1 ho
  · exact fo_Dusk_115_3 ho
  · exact fo_Dusk_115_4 ho
  · exact fo_Dusk_115_5 ho
  · exact fo_Dusk_115_9 ho
theorem fo_House_16_4 {o : String} (ho : o = R_House) : FOK o 16 4 2 := by subst ho; exact ⟨R_House, F_House, "UpperFloors$House", ck_House, by decide, tG 149 (by decide +kernel) (by decide +kernel), Or.inl rfl⟩
theorem fo_House_16_3 {o : String} (ho : o = R_House) : FOK o 16 3 2 := by subst ho; exact ⟨R_Heavy, F_Heavy, "UpperFloors$House", ck_Heavy, by decide, tG 149 (by decide +kernel) (by decide +kernel), Or.inl rfl⟩
theorem fo_House_16_1 {o : String} (ho : o = R_House) : FOK o 16 1 2 := by subst ho; exact ⟨R_Braked, F_Braked, "UpperFloors$House", ck_Braked, by decide, tG 149 (by decide +kernel) (by decide +kernel), Or.inl rfl⟩
theorem fo_House_16_0 {o : String} (ho : o = R_House) : FOK o 16 0 2 := by subst ho; exact ⟨R_Aunt, F_Aunt, "UpperFloors$House", ck_Aunt, by decide, tG 149 (by decide +kernel) (by decide +kernel), Or.inl rfl⟩
theorem fo_House_16_9 {o : String} (ho : o = R_House) : FOK o 16 9 2 := by subst ho; exact ⟨R_Stuck, F_Stuck, "UpperFloors$House", ck_Stuck, by decide, tG 149 (by decide +kernel) (by decide +kernel), Or.inl rfl⟩
theorem fo_House_16_5 {o : String} (ho : o = R_House) : FOK o 16 5 2 := by subst ho; exact ⟨R_Late, F_Late, "UpperFloors$House", ck_Late, by decide, tG 149 (by decide +kernel) (by decide +kernel), Or.inl rfl⟩
theorem foh_House_16 {o : String} (ho : o = R_House) : ∀ c, famP c → FOK o 16 c 2 := by
  intro c hc
  rcases hc with rfl | rfl | rfl | rfl | rfl | rfl
  · exact fo_House_16_0 ho
  · exact fo_House_16_1 ho
  · exact fo_House_16_3 ho
  · exact fo_House_16_4 ho
  · exact fo_House_16_5 ho
  · exact fo_House_16_9 ho
theorem fo_Stuck_7_4 {o : String} (ho : o = R_Stuck) : FOK o 7 4 2 := by subst ho; exact ⟨R_House, F_House, "UpperFloors$Stuck", ck_House, by decide, tG 150 (by decide +kernel) (by decide +kernel), Or.inr (tG 151 (by decide +kernel) (by decide +kernel))⟩
theorem fo_Stuck_7_3 {o : String} (ho : o = R_Stuck) : FOK o 7 3 2 := by subst ho; exact ⟨R_Heavy, F_Heavy, "UpperFloors$Stuck", ck_Heavy, by decide, tG 150 (by decide +kernel) (by decide +kernel), Or.inr (tG 151 (by decide +kernel) (by decide +kernel))⟩
theorem fo_Stuck_7_1 {o : String} (ho : o = R_Stuck) : FOK o 7 1 2 := by subst ho; exact ⟨R_Braked, F_Braked, "UpperFloors$Stuck", ck_Braked, by decide, tG 150 (by decide +kernel) (by decide +kernel), Or.inr (tG 151 (by decide +kernel) (by decide +kernel))⟩
theorem fo_Stuck_7_0 {o : String} (ho : o = R_Stuck) : FOK o 7 0 2 := by subst ho; exact ⟨R_Aunt, F_Aunt, "UpperFloors$Stuck", ck_Aunt, by decide, tG 150 (by decide +kernel) (by decide +kernel), Or.inr (tG 151 (by decide +kernel) (by decide +kernel))⟩
theorem fo_Stuck_7_9 {o : String} (ho : o = R_Stuck) : FOK o 7 9 2 := by subst ho; exact ⟨R_Stuck, F_Stuck, "UpperFloors$Stuck", ck_Stuck, by decide, tG 150 (by decide +kernel) (by decide +kernel), Or.inr (tG 151 (by decide +kernel) (by decide +kernel))⟩
theorem fo_Stuck_7_5 {o : String} (ho : o = R_Stuck) : FOK o 7 5 2 := by subst ho; exact ⟨R_Late, F_Late, "UpperFloors$Stuck", ck_Late, by decide, tG 150 (by decide +kernel) (by decide +kernel), Or.inr (tG 151 (by decide +kernel) (by decide +kernel))⟩
theorem foh_Stuck_7 {o : String} (ho : o = R_Stuck) : ∀ c, famP c → FOK o 7 c 2 := by
  intro c hc
  rcases hc with rfl | rfl | rfl | rfl | rfl | rfl
  · exact fo_Stuck_7_0 ho
  · exact fo_Stuck_7_1 ho
  · exact fo_Stuck_7_3 ho
  · exact fo_Stuck_7_4 ho
  · exact fo_Stuck_7_5 ho
  · exact fo_Stuck_7_9 ho
theorem fo_Braked_11_4 {o : String} (ho : o = R_Braked) : FOK o 11 4 2 := by subst ho; exact ⟨R_House, F_House, "UpperFloors$Braked", ck_House, by decide, tG 152 (by decide +kernel) (by decide +kernel), Or.inr (tG 153 (by decide +kernel) (by decide +kernel))⟩
theorem fo_Braked_11_3 {o : String} (ho : o = R_Braked) : FOK o 11 3 2 := by subst ho; exact ⟨R_Heavy, F_Heavy, "UpperFloors$Braked", ck_Heavy, by decide, tG 152 (by decide +kernel) (by decide +kernel), Or.inr (tG 153 (by decide +kernel) (by decide +kernel))⟩
theorem fo_Braked_11_1 {o : String} (ho : o = R_Braked) : FOK o 11 1 2 := by subst ho; exact ⟨R_Braked, F_Braked, "UpperFloors$Braked", ck_Braked, by decide, tG 152 (by decide +kernel) (by decide +kernel), Or.inr (tG 153 (by decide +kernel) (by decide +kernel))⟩
theorem fo_Braked_11_0 {o : String} (ho : o = R_Braked) : FOK o 11 0 2 := by subst ho; exact ⟨R_Aunt, F_Aunt, "UpperFloors$Braked", ck_Aunt, by decide, tG 152 (by decide +kernel) (by decide +kernel), Or.inr (tG 153 (by decide +kernel) (by decide +kernel))⟩
theorem fo_Braked_11_9 {o : String} (ho : o = R_Braked) : FOK o 11 9 2 := by subst ho; exact ⟨R_Stuck, F_Stuck, "UpperFloors$Braked", ck_Stuck, by decide, tG 152 (by decide +kernel) (by decide +kernel), Or.inr (tG 153 (by decide +kernel) (by decide +kernel))⟩
theorem fo_Braked_11_5 {o : String} (ho : o = R_Braked) : FOK o 11 5 2 := by subst ho; exact ⟨R_Late, F_Late, "UpperFloors$Braked", ck_Late, by decide, tG 152 (by decide +kernel) (by decide +kernel), Or.inr (tG 153 (by decide +kernel) (by decide +kernel))⟩
theorem foh_Braked_11 {o : String} (ho : o = R_Braked) : ∀ c, famP c → FOK o 11 c 2 := by
  intro c hc
  rcases hc with rfl | rfl | rfl | rfl | rfl | rfl
  · exact fo_Braked_11_0 ho
  · exact fo_Braked_11_1 ho
  · exact fo_Braked_11_3 ho
  · exact fo_Braked_11_4 ho
  · exact fo_Braked_11_5 ho
  · exact fo_Braked_11_9 ho
theorem fo_Heavy_11_4 {o : String} (ho : o = R_Heavy) : FOK o 11 4 2 := by subst ho; exact ⟨R_House, F_House, "UpperFloors$Heavy", ck_House, by decide, tG 154 (by decide +kernel) (by decide +kernel), Or.inr (tG 155 (by decide +kernel) (by decide +kernel))⟩
theorem fo_Heavy_11_3 {o : String} (ho : o = R_Heavy) : FOK o 11 3 2 := by subst ho; exact ⟨R_Heavy, F_Heavy, "UpperFloors$Heavy", ck_Heavy, by decide, tG 154 (by decide +kernel) (by decide +kernel), Or.inr (tG 155 (by decide +kernel) (by decide +kernel))⟩
theorem fo_Heavy_11_1 {o : String} (ho : o = R_Heavy) : FOK o 11 1 2 := by subst ho; exact ⟨R_Braked, F_Braked, "UpperFloors$Heavy", ck_Braked, by decide, tG 154 (by decide +kernel) (by decide +kernel), Or.inr (tG 155 (by decide +kernel) (by decide +kernel))⟩
theorem fo_Heavy_11_0 {o : String} (ho : o = R_Heavy) : FOK o 11 0 2 := by subst ho; exact ⟨R_Aunt, F_Aunt, "UpperFloors$Heavy", ck_Aunt, by decide, tG 154 (by decide +kernel) (by decide +kernel), Or.inr (tG 155 (by decide +kernel) (by decide +kernel))⟩
theorem fo_Heavy_11_9 {o : String} (ho : o = R_Heavy) : FOK o 11 9 2 := by subst ho; exact ⟨R_Stuck, F_Stuck, "UpperFloors$Heavy", ck_Stuck, by decide, tG 154 (by decide +kernel) (by decide +kernel), Or.inr (tG 155 (by decide +kernel) (by decide +kernel))⟩
theorem fo_Heavy_11_5 {o : String} (ho : o = R_Heavy) : FOK o 11 5 2 := by subst ho; exact ⟨R_Late, F_Late, "UpperFloors$Heavy", ck_Late, by decide, tG 154 (by decide +kernel) (by decide +kernel), Or.inr (tG 155 (by decide +kernel) (by decide +kernel))⟩
theorem foh_Heavy_11 {o : String} (ho : o = R_Heavy) : ∀ c, famP c → FOK o 11 c 2 := by
  intro c hc
  rcases hc with rfl | rfl | rfl | rfl | rfl | rfl
  · exact fo_Heavy_11_0 ho
  · exact fo_Heavy_11_1 ho
  · exact fo_Heavy_11_3 ho
  · exact fo_Heavy_11_4 ho
  · exact fo_Heavy_11_5 ho
  · exact fo_Heavy_11_9 ho
theorem fo_Late_11_4 {o : String} (ho : o = R_Late) : FOK o 11 4 2 := by subst ho; exact ⟨R_House, F_House, "UpperFloors$Late", ck_House, by decide, tG 156 (by decide +kernel) (by decide +kernel), Or.inr (tG 157 (by decide +kernel) (by decide +kernel))⟩
theorem fo_Late_11_3 {o : String} (ho : o = R_Late) : FOK o 11 3 2 := by subst ho; exact ⟨R_Heavy, F_Heavy, "UpperFloors$Late", ck_Heavy, by decide, tG 156 (by decide +kernel) (by decide +kernel), Or.inr (tG 157 (by decide +kernel) (by decide +kernel))⟩
theorem fo_Late_11_1 {o : String} (ho : o = R_Late) : FOK o 11 1 2 := by subst ho; exact ⟨R_Braked, F_Braked, "UpperFloors$Late", ck_Braked, by decide, tG 156 (by decide +kernel) (by decide +kernel), Or.inr (tG 157 (by decide +kernel) (by decide +kernel))⟩
theorem fo_Late_11_0 {o : String} (ho : o = R_Late) : FOK o 11 0 2 := by subst ho; exact ⟨R_Aunt, F_Aunt, "UpperFloors$Late", ck_Aunt, by decide, tG 156 (by decide +kernel) (by decide +kernel), Or.inr (tG 157 (by decide +kernel) (by decide +kernel))⟩
theorem fo_Late_11_9 {o : String} (ho : o = R_Late) : FOK o 11 9 2 := by subst ho; exact ⟨R_Stuck, F_Stuck, "UpperFloors$Late", ck_Stuck, by decide, tG 156 (by decide +kernel) (by decide +kernel), Or.inr (tG 157 (by decide +kernel) (by decide +kernel))⟩
theorem fo_Late_11_5 {o : String} (ho : o = R_Late) : FOK o 11 5 2 := by subst ho; exact ⟨R_Late, F_Late, "UpperFloors$Late", ck_Late, by decide, tG 156 (by decide +kernel) (by decide +kernel), Or.inr (tG 157 (by decide +kernel) (by decide +kernel))⟩
theorem foh_Late_11 {o : String} (ho : o = R_Late) : ∀ c, famP c → FOK o 11 c 2 := by
  intro c hc
  rcases hc with rfl | rfl | rfl | rfl | rfl | rfl
  · exact fo_Late_11_0 ho
  · exact fo_Late_11_1 ho
  · exact fo_Late_11_3 ho
  · exact fo_Late_11_4 ho
  · exact fo_Late_11_5 ho
  · exact fo_Late_11_9 ho
theorem fo_UF_140_4 {o : String} (ho : o = R_UF) : FOK o 140 4 2 := by subst ho; exact ⟨R_House, F_House, "UpperFloors$House", ck_House, by decide, tG 158 (by decide +kernel) (by decide +kernel), Or.inl rfl⟩
theorem fo_UF_140_3 {o : String} (ho : o = R_UF) : FOK o 140 3 2 := by subst ho; exact ⟨R_Heavy, F_Heavy, "UpperFloors$House", ck_Heavy, by decide, tG 158 (by decide +kernel) (by decide +kernel), Or.inl rfl⟩
theorem fo_UF_140_1 {o : String} (ho : o = R_UF) : FOK o 140 1 2 := by subst ho; exact ⟨R_Braked, F_Braked, "UpperFloors$House", ck_Braked, by decide, tG 158 (by decide +kernel) (by decide +kernel), Or.inl rfl⟩
theorem fo_UF_140_0 {o : String} (ho : o = R_UF) : FOK o 140 0 2 := by subst ho; exact ⟨R_Aunt, F_Aunt, "UpperFloors$House", ck_Aunt, by decide, tG 158 (by decide +kernel) (by decide +kernel), Or.inl rfl⟩
theorem fo_UF_140_9 {o : String} (ho : o = R_UF) : FOK o 140 9 2 := by subst ho; exact ⟨R_Stuck, F_Stuck, "UpperFloors$House", ck_Stuck, by decide, tG 158 (by decide +kernel) (by decide +kernel), Or.inl rfl⟩
theorem fo_UF_140_5 {o : String} (ho : o = R_UF) : FOK o 140 5 2 := by subst ho; exact ⟨R_Late, F_Late, "UpperFloors$House", ck_Late, by decide, tG 158 (by decide +kernel) (by decide +kernel), Or.inl rfl⟩
theorem foh_UF_140 {o : String} (ho : o = R_UF) : ∀ c, famP c → FOK o 140 c 2 := by
  intro c hc
  rcases hc with rfl | rfl | rfl | rfl | rfl | rfl
  · exact fo_UF_140_0 ho
  · exact fo_UF_140_1 ho
  · exact fo_UF_140_3 ho
  · exact fo_UF_140_4 ho
  · exact fo_UF_140_5 ho
  · exact fo_UF_140_9 ho
theorem fo_Dusk_121_4 {o : String} (ho : o = R_Dusk) : FOK o 121 4 2 := by subst ho; exact ⟨R_House, F_House, "UpperFloors$House", ck_House, by decide, tG 159 (by decide +kernel) (by decide +kernel), Or.inl rfl⟩
theorem fo_Dusk_121_3 {o : String} (ho : o = R_Dusk) : FOK o 121 3 2 := by subst ho; exact ⟨R_Heavy, F_Heavy, "UpperFloors$House", ck_Heavy, by decide, tG 159 (by decide +kernel) (by decide +kernel), Or.inl rfl⟩
theorem fo_Dusk_121_1 {o : String} (ho : o = R_Dusk) : FOK o 121 1 2 := by subst ho; exact ⟨R_Braked, F_Braked, "UpperFloors$House", ck_Braked, by decide, tG 159 (by decide +kernel) (by decide +kernel), Or.inl rfl⟩
theorem fo_Dusk_121_0 {o : String} (ho : o = R_Dusk) : FOK o 121 0 2 := by subst ho; exact ⟨R_Aunt, F_Aunt, "UpperFloors$House", ck_Aunt, by decide, tG 159 (by decide +kernel) (by decide +kernel), Or.inl rfl⟩
theorem fo_Dusk_121_9 {o : String} (ho : o = R_Dusk) : FOK o 121 9 2 := by subst ho; exact ⟨R_Stuck, F_Stuck, "UpperFloors$House", ck_Stuck, by decide, tG 159 (by decide +kernel) (by decide +kernel), Or.inl rfl⟩
theorem fo_Dusk_121_5 {o : String} (ho : o = R_Dusk) : FOK o 121 5 2 := by subst ho; exact ⟨R_Late, F_Late, "UpperFloors$House", ck_Late, by decide, tG 159 (by decide +kernel) (by decide +kernel), Or.inl rfl⟩
theorem foh_Dusk_121 {o : String} (ho : o = R_Dusk) : ∀ c, famP c → FOK o 121 c 2 := by
  intro c hc
  rcases hc with rfl | rfl | rfl | rfl | rfl | rfl
  · exact fo_Dusk_121_0 ho
  · exact fo_Dusk_121_1 ho
  · exact fo_Dusk_121_3 ho
  · exact fo_Dusk_121_4 ho
  · exact fo_Dusk_121_5 ho
  · exact fo_Dusk_121_9 ho
theorem fo_Law_11_6 {o : String} (ho : o = R_Law) : FOK o 11 6 0 := by subst ho; exact ⟨R_Law, F_Law, "UpperFloors$Law", ck_Law, by decide, tG 172 (by decide +kernel) (by decide +kernel), Or.inl rfl⟩
theorem fo_Law_15_6 {o : String} (ho : o = R_Law) : FOK o 15 6 1 := by subst ho; exact ⟨R_Law, F_Law, "UpperFloors$Law", ck_Law, by decide, tG 173 (by decide +kernel) (by decide +kernel), Or.inl rfl⟩
theorem fo_Reader_40_6 {o : String} (ho : o = R_Reader) : FOK o 40 6 1 := by subst ho; exact ⟨R_Law, F_Law, "UpperFloors$Law", ck_Law, by decide, tG 174 (by decide +kernel) (by decide +kernel), Or.inl rfl⟩
theorem fo_Law_18_6 {o : String} (ho : o = R_Law) : FOK o 18 6 2 := by subst ho; exact ⟨R_Law, F_Law, "UpperFloors$Law", ck_Law, by decide, tG 175 (by decide +kernel) (by decide +kernel), Or.inl rfl⟩
theorem fo_Reader_29_6 {o : String} (ho : o = R_Reader) : FOK o 29 6 2 := by subst ho; exact ⟨R_Law, F_Law, "UpperFloors$Law", ck_Law, by decide, tG 176 (by decide +kernel) (by decide +kernel), Or.inl rfl⟩
theorem fo_Sheet_9_8 {o : String} (ho : o = R_Sheet) : FOK o 9 8 0 := by subst ho; exact ⟨R_Sheet, F_Sheet, "UpperFloors$Sheet", ck_Sheet, by decide, tG 189 (by decide +kernel) (by decide +kernel), Or.inl rfl⟩
theorem fo_UF_243_8 {o : String} (ho : o = R_UF) : FOK o 243 8 0 := by subst ho; exact ⟨R_Sheet, F_Sheet, "UpperFloors$Sheet", ck_Sheet, by decide, tG 190 (by decide +kernel) (by decide +kernel), Or.inl rfl⟩
theorem fo_Sheet_15_8 {o : String} (ho : o = R_Sheet) : FOK o 15 8 1 := by subst ho; exact ⟨R_Sheet, F_Sheet, "UpperFloors$Sheet", ck_Sheet, by decide, tG 191 (by decide +kernel) (by decide +kernel), Or.inl rfl⟩
theorem fo_UF_236_8 {o : String} (ho : o = R_UF) : FOK o 236 8 1 := by subst ho; exact ⟨R_Sheet, F_Sheet, "UpperFloors$Sheet", ck_Sheet, by decide, tG 192 (by decide +kernel) (by decide +kernel), Or.inl rfl⟩
theorem fo_Sheet_19_8 {o : String} (ho : o = R_Sheet) : FOK o 19 8 2 := by subst ho; exact ⟨R_Sheet, F_Sheet, "UpperFloors$Sheet", ck_Sheet, by decide, tG 193 (by decide +kernel) (by decide +kernel), Or.inl rfl⟩
theorem fo_UF_242_8 {o : String} (ho : o = R_UF) : FOK o 242 8 2 := by subst ho; exact ⟨R_Sheet, F_Sheet, "UpperFloors$Sheet", ck_Sheet, by decide, tG 194 (by decide +kernel) (by decide +kernel), Or.inl rfl⟩
theorem fo_UF_11_11 {o : String} (ho : o = R_UF) : FOK o 11 11 0 := by subst ho; exact ⟨R_UF, F_UF, "UpperFloors", ck_UF, by decide, tG 346 (by decide +kernel) (by decide +kernel), Or.inl rfl⟩
theorem fo_UF_17_11 {o : String} (ho : o = R_UF) : FOK o 17 11 1 := by subst ho; exact ⟨R_UF, F_UF, "UpperFloors", ck_UF, by decide, tG 347 (by decide +kernel) (by decide +kernel), Or.inl rfl⟩
theorem fo_UF_23_11 {o : String} (ho : o = R_UF) : FOK o 23 11 2 := by subst ho; exact ⟨R_UF, F_UF, "UpperFloors", ck_UF, by decide, tG 348 (by decide +kernel) (by decide +kernel), Or.inl rfl⟩
theorem fo_UF_27_11 {o : String} (ho : o = R_UF) : FOK o 27 11 3 := by subst ho; exact ⟨R_UF, F_UF, "UpperFloors", ck_UF, by decide, tG 349 (by decide +kernel) (by decide +kernel), Or.inl rfl⟩
theorem fo_UF_34_11 {o : String} (ho : o = R_UF) : FOK o 34 11 4 := by subst ho; exact ⟨R_UF, F_UF, "UpperFloors", ck_UF, by decide, tG 350 (by decide +kernel) (by decide +kernel), Or.inl rfl⟩
theorem fo_UF_38_11 {o : String} (ho : o = R_UF) : FOK o 38 11 5 := by subst ho; exact ⟨R_UF, F_UF, "UpperFloors", ck_UF, by decide, tG 351 (by decide +kernel) (by decide +kernel), Or.inl rfl⟩
theorem fo_UF_44_11 {o : String} (ho : o = R_UF) : FOK o 44 11 6 := by subst ho; exact ⟨R_UF, F_UF, "UpperFloors", ck_UF, by decide, tG 352 (by decide +kernel) (by decide +kernel), Or.inl rfl⟩
theorem fo_UF_51_11 {o : String} (ho : o = R_UF) : FOK o 51 11 7 := by subst ho; exact ⟨R_UF, F_UF, "UpperFloors", ck_UF, by decide, tG 353 (by decide +kernel) (by decide +kernel), Or.inl rfl⟩
theorem fo_UF_76_11 {o : String} (ho : o = R_UF) : FOK o 76 11 8 := by subst ho; exact ⟨R_UF, F_UF, "UpperFloors", ck_UF, by decide, tG 354 (by decide +kernel) (by decide +kernel), Or.inl rfl⟩
theorem fo_UF_92_11 {o : String} (ho : o = R_UF) : FOK o 92 11 9 := by subst ho; exact ⟨R_UF, F_UF, "UpperFloors", ck_UF, by decide, tG 355 (by decide +kernel) (by decide +kernel), Or.inl rfl⟩
theorem fo_UF_232_11 {o : String} (ho : o = R_UF) : FOK o 232 11 10 := by subst ho; exact ⟨R_UF, F_UF, "UpperFloors", ck_UF, by decide, tG 356 (by decide +kernel) (by decide +kernel), Or.inl rfl⟩
theorem fo_MO_90_12 {o : String} (ho : o = R_MO) : FOK o 90 12 0 := by subst ho; exact ⟨R_MO, F_MO, "UpperFloorsModel", ck_MO, by decide, tG 883 (by decide +kernel) (by decide +kernel), Or.inl rfl⟩
theorem fo_MO_7_12 {o : String} (ho : o = R_MO) : FOK o 7 12 1 := by subst ho; exact ⟨R_MO, F_MO, "UpperFloorsModel", ck_MO, by decide, tG 884 (by decide +kernel) (by decide +kernel), Or.inl rfl⟩
theorem fo_MO_13_12 {o : String} (ho : o = R_MO) : FOK o 13 12 2 := by subst ho; exact ⟨R_MO, F_MO, "UpperFloorsModel", ck_MO, by decide, tG 885 (by decide +kernel) (by decide +kernel), Or.inl rfl⟩
theorem fo_MO_16_12 {o : String} (ho : o = R_MO) : FOK o 16 12 3 := by subst ho; exact ⟨R_MO, F_MO, "UpperFloorsModel", ck_MO, by decide, tG 886 (by decide +kernel) (by decide +kernel), Or.inl rfl⟩
theorem fo_MO_19_12 {o : String} (ho : o = R_MO) : FOK o 19 12 4 := by subst ho; exact ⟨R_MO, F_MO, "UpperFloorsModel", ck_MO, by decide, tG 887 (by decide +kernel) (by decide +kernel), Or.inl rfl⟩
theorem fo_MO_22_12 {o : String} (ho : o = R_MO) : FOK o 22 12 5 := by subst ho; exact ⟨R_MO, F_MO, "UpperFloorsModel", ck_MO, by decide, tG 888 (by decide +kernel) (by decide +kernel), Or.inl rfl⟩
theorem fo_MO_25_12 {o : String} (ho : o = R_MO) : FOK o 25 12 6 := by subst ho; exact ⟨R_MO, F_MO, "UpperFloorsModel", ck_MO, by decide, tG 889 (by decide +kernel) (by decide +kernel), Or.inl rfl⟩
theorem fo_MO_28_12 {o : String} (ho : o = R_MO) : FOK o 28 12 7 := by subst ho; exact ⟨R_MO, F_MO, "UpperFloorsModel", ck_MO, by decide, tG 890 (by decide +kernel) (by decide +kernel), Or.inl rfl⟩
theorem fo_MO_82_12 {o : String} (ho : o = R_MO) : FOK o 82 12 8 := by subst ho; exact ⟨R_MO, F_MO, "UpperFloorsModel", ck_MO, by decide, tG 891 (by decide +kernel) (by decide +kernel), Or.inl rfl⟩
theorem fo_MO_31_12 {o : String} (ho : o = R_MO) : FOK o 31 12 9 := by subst ho; exact ⟨R_MO, F_MO, "UpperFloorsModel", ck_MO, by decide, tG 892 (by decide +kernel) (by decide +kernel), Or.inl rfl⟩
theorem fo_MO_34_12 {o : String} (ho : o = R_MO) : FOK o 34 12 10 := by subst ho; exact ⟨R_MO, F_MO, "UpperFloorsModel", ck_MO, by decide, tG 893 (by decide +kernel) (by decide +kernel), Or.inl rfl⟩
theorem fo_MO_107_12 {o : String} (ho : o = R_MO) : FOK o 107 12 11 := by subst ho; exact ⟨R_MO, F_MO, "UpperFloorsModel", ck_MO, by decide, tG 894 (by decide +kernel) (by decide +kernel), Or.inl rfl⟩
theorem fo_MO_110_12 {o : String} (ho : o = R_MO) : FOK o 110 12 12 := by subst ho; exact ⟨R_MO, F_MO, "UpperFloorsModel", ck_MO, by decide, tG 895 (by decide +kernel) (by decide +kernel), Or.inl rfl⟩
theorem fo_MO_286_12 {o : String} (ho : o = R_MO) : FOK o 286 12 13 := by subst ho; exact ⟨R_MO, F_MO, "UpperFloorsModel", ck_MO, by decide, tG 896 (by decide +kernel) (by decide +kernel), Or.inl rfl⟩
theorem fo_MO_290_12 {o : String} (ho : o = R_MO) : FOK o 290 12 14 := by subst ho; exact ⟨R_MO, F_MO, "UpperFloorsModel", ck_MO, by decide, tG 897 (by decide +kernel) (by decide +kernel), Or.inl rfl⟩
theorem fo_MO_293_12 {o : String} (ho : o = R_MO) : FOK o 293 12 15 := by subst ho; exact ⟨R_MO, F_MO, "UpperFloorsModel", ck_MO, by decide, tG 898 (by decide +kernel) (by decide +kernel), Or.inl rfl⟩
theorem fo_MO_37_12 {o : String} (ho : o = R_MO) : FOK o 37 12 16 := by subst ho; exact ⟨R_MO, F_MO, "UpperFloorsModel", ck_MO, by decide, tG 899 (by decide +kernel) (by decide +kernel), Or.inl rfl⟩
theorem fo_MO_40_12 {o : String} (ho : o = R_MO) : FOK o 40 12 17 := by subst ho; exact ⟨R_MO, F_MO, "UpperFloorsModel", ck_MO, by decide, tG 900 (by decide +kernel) (by decide +kernel), Or.inl rfl⟩
theorem fo_MO_43_12 {o : String} (ho : o = R_MO) : FOK o 43 12 18 := by subst ho; exact ⟨R_MO, F_MO, "UpperFloorsModel", ck_MO, by decide, tG 901 (by decide +kernel) (by decide +kernel), Or.inl rfl⟩
theorem fo_MO_46_12 {o : String} (ho : o = R_MO) : FOK o 46 12 19 := by subst ho; exact ⟨R_MO, F_MO, "UpperFloorsModel", ck_MO, by decide, tG 902 (by decide +kernel) (by decide +kernel), Or.inl rfl⟩
theorem fo_MO_49_12 {o : String} (ho : o = R_MO) : FOK o 49 12 20 := by subst ho; exact ⟨R_MO, F_MO, "UpperFloorsModel", ck_MO, by decide, tG 903 (by decide +kernel) (by decide +kernel), Or.inl rfl⟩
theorem fo_MO_116_12 {o : String} (ho : o = R_MO) : FOK o 116 12 21 := by subst ho; exact ⟨R_MO, F_MO, "UpperFloorsModel", ck_MO, by decide, tG 904 (by decide +kernel) (by decide +kernel), Or.inl rfl⟩
theorem fo_MO_119_12 {o : String} (ho : o = R_MO) : FOK o 119 12 22 := by subst ho; exact ⟨R_MO, F_MO, "UpperFloorsModel", ck_MO, by decide, tG 905 (by decide +kernel) (by decide +kernel), Or.inl rfl⟩
theorem fo_MO_122_12 {o : String} (ho : o = R_MO) : FOK o 122 12 23 := by subst ho; exact ⟨R_MO, F_MO, "UpperFloorsModel", ck_MO, by decide, tG 906 (by decide +kernel) (by decide +kernel), Or.inl rfl⟩
theorem fo_MO_125_12 {o : String} (ho : o = R_MO) : FOK o 125 12 24 := by subst ho; exact ⟨R_MO, F_MO, "UpperFloorsModel", ck_MO, by decide, tG 907 (by decide +kernel) (by decide +kernel), Or.inl rfl⟩
theorem fo_MO_52_12 {o : String} (ho : o = R_MO) : FOK o 52 12 25 := by subst ho; exact ⟨R_MO, F_MO, "UpperFloorsModel", ck_MO, by decide, tG 908 (by decide +kernel) (by decide +kernel), Or.inl rfl⟩
theorem fo_MO_55_12 {o : String} (ho : o = R_MO) : FOK o 55 12 26 := by subst ho; exact ⟨R_MO, F_MO, "UpperFloorsModel", ck_MO, by decide, tG 909 (by decide +kernel) (by decide +kernel), Or.inl rfl⟩
theorem fo_MO_135_12 {o : String} (ho : o = R_MO) : FOK o 135 12 27 := by subst ho; exact ⟨R_MO, F_MO, "UpperFloorsModel", ck_MO, by decide, tG 910 (by decide +kernel) (by decide +kernel), Or.inl rfl⟩
theorem fo_MO_142_12 {o : String} (ho : o = R_MO) : FOK o 142 12 28 := by subst ho; exact ⟨R_MO, F_MO, "UpperFloorsModel", ck_MO, by decide, tG 911 (by decide +kernel) (by decide +kernel), Or.inl rfl⟩
theorem fo_MO_132_12 {o : String} (ho : o = R_MO) : FOK o 132 12 29 := by subst ho; exact ⟨R_MO, F_MO, "UpperFloorsModel", ck_MO, by decide, tG 912 (by decide +kernel) (by decide +kernel), Or.inl rfl⟩
theorem fo_MO_58_12 {o : String} (ho : o = R_MO) : FOK o 58 12 30 := by subst ho; exact ⟨R_MO, F_MO, "UpperFloorsModel", ck_MO, by decide, tG 913 (by decide +kernel) (by decide +kernel), Or.inl rfl⟩
theorem fo_MO_61_12 {o : String} (ho : o = R_MO) : FOK o 61 12 31 := by subst ho; exact ⟨R_MO, F_MO, "UpperFloorsModel", ck_MO, by decide, tG 914 (by decide +kernel) (by decide +kernel), Or.inl rfl⟩
theorem fo_MO_64_12 {o : String} (ho : o = R_MO) : FOK o 64 12 32 := by subst ho; exact ⟨R_MO, F_MO, "UpperFloorsModel", ck_MO, by decide, tG 915 (by decide +kernel) (by decide +kernel), Or.inl rfl⟩
theorem fo_MO_67_12 {o : String} (ho : o = R_MO) : FOK o 67 12 33 := by subst ho; exact ⟨R_MO, F_MO, "UpperFloorsModel", ck_MO, by decide, tG 916 (by decide +kernel) (by decide +kernel), Or.inl rfl⟩
theorem fo_MO_70_12 {o : String} (ho : o = R_MO) : FOK o 70 12 34 := by subst ho; exact ⟨R_MO, F_MO, "UpperFloorsModel", ck_MO, by decide, tG 917 (by decide +kernel) (by decide +kernel), Or.inl rfl⟩
theorem fo_MO_73_12 {o : String} (ho : o = R_MO) : FOK o 73 12 35 := by subst ho; exact ⟨R_MO, F_MO, "UpperFloorsModel", ck_MO, by decide, tG 918 (by decide +kernel) (by decide +kernel), Or.inl rfl⟩
theorem fo_MO_76_12 {o : String} (ho : o = R_MO) : FOK o 76 12 36 := by subst ho; exact ⟨R_MO, F_MO, "UpperFloorsModel", ck_MO, by decide, tG 919 (by decide +kernel) (by decide +kernel), Or.inl rfl⟩
theorem fo_MO_212_12 {o : String} (ho : o = R_MO) : FOK o 212 12 37 := by subst ho; exact ⟨R_MO, F_MO, "UpperFloorsModel", ck_MO, by decide, tG 920 (by decide +kernel) (by decide +kernel), Or.inl rfl⟩
theorem fo_MO_215_12 {o : String} (ho : o = R_MO) : FOK o 215 12 38 := by subst ho; exact ⟨R_MO, F_MO, "UpperFloorsModel", ck_MO, by decide, tG 921 (by decide +kernel) (by decide +kernel), Or.inl rfl⟩
theorem fo_MO_79_12 {o : String} (ho : o = R_MO) : FOK o 79 12 39 := by subst ho; exact ⟨R_MO, F_MO, "UpperFloorsModel", ck_MO, by decide, tG 922 (by decide +kernel) (by decide +kernel), Or.inl rfl⟩
theorem ct_Dusk_101 {q : MM} (hq : q.1 = R_Dusk) : CallTo q m_Dusk_rise (.invokevirtual 101) 2 (some (some R_Dusk)) := ct_V (by rw [hq]; exact tG 631 (by decide +kernel) (by decide +kernel)) (tG 633 (by decide +kernel) (by decide +kernel)) (sG 22 (by decide +kernel) (by decide +kernel)) (tG 3 (by decide +kernel) (by decide +kernel)) (tG 634 (by decide +kernel) (by decide +kernel)) (by decide +kernel)
theorem ct_Dusk_105 {q : MM} (hq : q.1 = R_Dusk) : CallTo q m_Dusk_says (.invokevirtual 105) 5 (some (some R_Dusk)) := ct_V (by rw [hq]; exact tG 582 (by decide +kernel) (by decide +kernel)) (tG 441 (by decide +kernel) (by decide +kernel)) (tG 442 (by decide +kernel) (by decide +kernel)) (tG 3 (by decide +kernel) (by decide +kernel)) (tG 443 (by decide +kernel) (by decide +kernel)) (by decide +kernel)
theorem ct_Dusk_124 {q : MM} (hq : q.1 = R_Dusk) : CallTo q m_Law_answer (.invokevirtual 124) 4 (some (some R_Law)) := ct_V (by rw [hq]; exact tG 444 (by decide +kernel) (by decide +kernel)) (tG 445 (by decide +kernel) (by decide +kernel)) (tG 446 (by decide +kernel) (by decide +kernel)) (tG 6 (by decide +kernel) (by decide +kernel)) (tG 447 (by decide +kernel) (by decide +kernel)) (by decide +kernel)
theorem ct_Dusk_45 {q : MM} (hq : q.1 = R_Dusk) : CallTo q m_Town_become (.invokevirtual 45) 2 (some (some R_Town)) := ct_V (by rw [hq]; exact tG 433 (by decide +kernel) (by decide +kernel)) (tG 434 (by decide +kernel) (by decide +kernel)) (tG 435 (by decide +kernel) (by decide +kernel)) (tG 2 (by decide +kernel) (by decide +kernel)) (tG 436 (by decide +kernel) (by decide +kernel)) (by decide +kernel)
theorem ct_Dusk_53 {q : MM} (hq : q.1 = R_Dusk) : CallTo q m_Dusk_pass (.invokevirtual 53) 3 (some (some R_Dusk)) := ct_V (by rw [hq]; exact tG 556 (by decide +kernel) (by decide +kernel)) (tG 557 (by decide +kernel) (by decide +kernel)) (tG 558 (by decide +kernel) (by decide +kernel)) (tG 3 (by decide +kernel) (by decide +kernel)) (tG 559 (by decide +kernel) (by decide +kernel)) (by decide +kernel)
theorem ct_Dusk_57 {q : MM} (hq : q.1 = R_Dusk) : CallTo q m_Town_isDown (.invokevirtual 57) 2 (some (some R_Town)) := ct_V (by rw [hq]; exact tG 668 (by decide +kernel) (by decide +kernel)) (tG 645 (by decide +kernel) (by decide +kernel)) (tG 646 (by decide +kernel) (by decide +kernel)) (tG 2 (by decide +kernel) (by decide +kernel)) (tG 647 (by decide +kernel) (by decide +kernel)) (by decide +kernel)
theorem ct_Dusk_68 {q : MM} (hq : q.1 = R_Dusk) : CallTo q m_Dusk_alone (.invokevirtual 68) 3 (some (some R_Dusk)) := ct_V (by rw [hq]; exact tG 560 (by decide +kernel) (by decide +kernel)) (tG 562 (by decide +kernel) (by decide +kernel)) (sG 18 (by decide +kernel) (by decide +kernel)) (tG 3 (by decide +kernel) (by decide +kernel)) (tG 563 (by decide +kernel) (by decide +kernel)) (by decide +kernel)
theorem ct_Dusk_71 {q : MM} (hq : q.1 = R_Dusk) : CallTo q m_Town_leads (.invokevirtual 71) 2 (some (some R_Town)) := ct_V (by rw [hq]; exact tG 623 (by decide +kernel) (by decide +kernel)) (tG 390 (by decide +kernel) (by decide +kernel)) (tG 391 (by decide +kernel) (by decide +kernel)) (tG 2 (by decide +kernel) (by decide +kernel)) (tG 392 (by decide +kernel) (by decide +kernel)) (by decide +kernel)
theorem ct_Dusk_74 {q : MM} (hq : q.1 = R_Dusk) : CallTo q m_Dusk_pair (.invokevirtual 74) 4 (some (some R_Dusk)) := ct_V (by rw [hq]; exact tG 624 (by decide +kernel) (by decide +kernel)) (tG 626 (by decide +kernel) (by decide +kernel)) (sG 21 (by decide +kernel) (by decide +kernel)) (tG 3 (by decide +kernel) (by decide +kernel)) (tG 627 (by decide +kernel) (by decide +kernel)) (by decide +kernel)
theorem ct_Dusk_85 {q : MM} (hq : q.1 = R_Dusk) : CallTo q m_Dusk_weighs (.invokevirtual 85) 3 (some (some R_Dusk)) := ct_V (by rw [hq]; exact tG 578 (by decide +kernel) (by decide +kernel)) (tG 579 (by decide +kernel) (by decide +kernel)) (tG 580 (by decide +kernel) (by decide +kernel)) (tG 3 (by decide +kernel) (by decide +kernel)) (tG 581 (by decide +kernel) (by decide +kernel)) (by decide +kernel)
theorem ct_Dusk_89 {q : MM} (hq : q.1 = R_Dusk) : CallTo q m_Dusk_holds (.invokevirtual 89) 3 (some (some R_Dusk)) := ct_V (by rw [hq]; exact tG 602 (by decide +kernel) (by decide +kernel)) (tG 604 (by decide +kernel) (by decide +kernel)) (sG 19 (by decide +kernel) (by decide +kernel)) (tG 3 (by decide +kernel) (by decide +kernel)) (tG 605 (by decide +kernel) (by decide +kernel)) (by decide +kernel)
theorem ct_Dusk_92 {q : MM} (hq : q.1 = R_Dusk) : CallTo q m_Dusk_sink (.invokevirtual 92) 3 (some (some R_Dusk)) := ct_V (by rw [hq]; exact tG 619 (by decide +kernel) (by decide +kernel)) (tG 621 (by decide +kernel) (by decide +kernel)) (sG 20 (by decide +kernel) (by decide +kernel)) (tG 3 (by decide +kernel) (by decide +kernel)) (tG 622 (by decide +kernel) (by decide +kernel)) (by decide +kernel)
theorem ct_Dusk_95 {q : MM} (hq : q.1 = R_Dusk) : CallTo q m_Math_abs (.invokestatic 95) 1 none := ct_So (by rw [hq]; exact tG 628 (by decide +kernel) (by decide +kernel)) (tG 629 (by decide +kernel) (by decide +kernel)) (tG 12 (by decide +kernel) (by decide +kernel)) (tG 630 (by decide +kernel) (by decide +kernel)) (by decide +kernel)
theorem ct_Law_22 {q : MM} (hq : q.1 = R_Law) : CallTo q m_Law_add (.invokevirtual 22) 2 (some (some R_Law)) := ct_V (by rw [hq]; exact tG 345 (by decide +kernel) (by decide +kernel)) (tG 338 (by decide +kernel) (by decide +kernel)) (tG 339 (by decide +kernel) (by decide +kernel)) (tG 6 (by decide +kernel) (by decide +kernel)) (tG 340 (by decide +kernel) (by decide +kernel)) (by decide +kernel)
theorem ct_Law_26 {q : MM} (hq : q.1 = R_Law) : CallTo q m_UF_within (.invokestatic 26) 3 none := ct_SN (host := "UpperFloors") (by rw [hq]; decide +kernel) (tG 266 (by decide +kernel) (by decide +kernel)) (tG 1 (by decide +kernel) (by decide +kernel)) (tG 267 (by decide +kernel) (by decide +kernel)) (by decide +kernel)
theorem ct_Law_30 {q : MM} (hq : q.1 = R_Law) : CallTo q m_Law_signed (.invokestatic 30) 2 none := ct_So (by rw [hq]; exact tG 449 (by decide +kernel) (by decide +kernel)) (tG 450 (by decide +kernel) (by decide +kernel)) (tG 6 (by decide +kernel) (by decide +kernel)) (tG 451 (by decide +kernel) (by decide +kernel)) (by decide +kernel)
theorem ct_Law_34 {q : MM} (hq : q.1 = R_Law) : CallTo q m_Law_joined (.invokestatic 34) 3 none := ct_So (by rw [hq]; exact tG 452 (by decide +kernel) (by decide +kernel)) (tG 453 (by decide +kernel) (by decide +kernel)) (tG 6 (by decide +kernel) (by decide +kernel)) (tG 454 (by decide +kernel) (by decide +kernel)) (by decide +kernel)
theorem ct_Law_38 {q : MM} (hq : q.1 = R_Law) : CallTo q m_Math_min (.invokestatic 38) 2 none := ct_So (by rw [hq]; exact tG 455 (by decide +kernel) (by decide +kernel)) (tG 256 (by decide +kernel) (by decide +kernel)) (tG 12 (by decide +kernel) (by decide +kernel)) (tG 257 (by decide +kernel) (by decide +kernel)) (by decide +kernel)
theorem ct_Law_43 {q : MM} (hq : q.1 = R_Law) : CallTo q m_Math_max (.invokestatic 43) 2 none := ct_So (by rw [hq]; exact tG 456 (by decide +kernel) (by decide +kernel)) (tG 457 (by decide +kernel) (by decide +kernel)) (tG 12 (by decide +kernel) (by decide +kernel)) (tG 458 (by decide +kernel) (by decide +kernel)) (by decide +kernel)
theorem ct_MO_101 {q : MM} (hq : q.1 = R_MO) : CallTo q m_MO_chains (.invokevirtual 101) 1 (some (some R_MO)) := ct_V (by rw [hq]; exact tG 1008 (by decide +kernel) (by decide +kernel)) (tG 1010 (by decide +kernel) (by decide +kernel)) (sG 34 (by decide +kernel) (by decide +kernel)) (tG 13 (by decide +kernel) (by decide +kernel)) (tG 1011 (by decide +kernel) (by decide +kernel)) (by decide +kernel)
theorem ct_MO_104 {q : MM} (hq : q.1 = R_MO) : CallTo q m_MO_peopleAll (.invokevirtual 104) 1 (some (some R_MO)) := ct_V (by rw [hq]; exact tG 1016 (by decide +kernel) (by decide +kernel)) (tG 1018 (by decide +kernel) (by decide +kernel)) (sG 36 (by decide +kernel) (by decide +kernel)) (tG 13 (by decide +kernel) (by decide +kernel)) (tG 1019 (by decide +kernel) (by decide +kernel)) (by decide +kernel)
theorem ct_MO_113 {q : MM} (hq : q.1 = R_MO) : CallTo q m_MO_isByte (.invokestatic 113) 1 none := ct_So (by rw [hq]; exact tG 1024 (by decide +kernel) (by decide +kernel)) (tG 1025 (by decide +kernel) (by decide +kernel)) (tG 13 (by decide +kernel) (by decide +kernel)) (tG 1026 (by decide +kernel) (by decide +kernel)) (by decide +kernel)
theorem ct_MO_128 {q : MM} (hq : q.1 = R_MO) : CallTo q m_MO_wordFrom (.invokevirtual 128) 3 (some (some R_MO)) := ct_V (by rw [hq]; exact tG 847 (by decide +kernel) (by decide +kernel)) (tG 849 (by decide +kernel) (by decide +kernel)) (sG 26 (by decide +kernel) (by decide +kernel)) (tG 13 (by decide +kernel) (by decide +kernel)) (tG 850 (by decide +kernel) (by decide +kernel)) (by decide +kernel)
theorem ct_MO_138 {q : MM} (hq : q.1 = R_MO) : CallTo q m_MO_rank (.invokestatic 138) 1 none := ct_So (by rw [hq]; exact tG 864 (by decide +kernel) (by decide +kernel)) (tG 865 (by decide +kernel) (by decide +kernel)) (tG 13 (by decide +kernel) (by decide +kernel)) (tG 866 (by decide +kernel) (by decide +kernel)) (by decide +kernel)
theorem ct_MO_145 {q : MM} (hq : q.1 = R_MO) : CallTo q m_MO_puts (.invokevirtual 145) 2 (some (some R_MO)) := ct_V (by rw [hq]; exact tG 856 (by decide +kernel) (by decide +kernel)) (tG 858 (by decide +kernel) (by decide +kernel)) (sG 28 (by decide +kernel) (by decide +kernel)) (tG 13 (by decide +kernel) (by decide +kernel)) (tG 859 (by decide +kernel) (by decide +kernel)) (by decide +kernel)
theorem ct_MO_149 {q : MM} (hq : q.1 = R_MO) : CallTo q m_MO_holds (.invokevirtual 149) 2 (some (some R_MO)) := ct_V (by rw [hq]; exact tG 871 (by decide +kernel) (by decide +kernel)) (tG 873 (by decide +kernel) (by decide +kernel)) (sG 31 (by decide +kernel) (by decide +kernel)) (tG 13 (by decide +kernel) (by decide +kernel)) (tG 874 (by decide +kernel) (by decide +kernel)) (by decide +kernel)
theorem ct_MO_152 {q : MM} (hq : q.1 = R_MO) : CallTo q m_MO_unwinds (.invokevirtual 152) 2 (some (some R_MO)) := ct_V (by rw [hq]; exact tG 860 (by decide +kernel) (by decide +kernel)) (tG 862 (by decide +kernel) (by decide +kernel)) (sG 29 (by decide +kernel) (by decide +kernel)) (tG 13 (by decide +kernel) (by decide +kernel)) (tG 863 (by decide +kernel) (by decide +kernel)) (by decide +kernel)
theorem ct_MO_155 {q : MM} (hq : q.1 = R_MO) : CallTo q m_MO_next (.invokevirtual 155) 1 (some (some R_MO)) := ct_V (by rw [hq]; exact tG 840 (by decide +kernel) (by decide +kernel)) (tG 842 (by decide +kernel) (by decide +kernel)) (sG 25 (by decide +kernel) (by decide +kernel)) (tG 13 (by decide +kernel) (by decide +kernel)) (tG 843 (by decide +kernel) (by decide +kernel)) (by decide +kernel)
theorem ct_MO_159 {q : MM} (hq : q.1 = R_MO) : CallTo q m_MO_opensOne (.invokevirtual 159) 2 (some (some R_MO)) := ct_V (by rw [hq]; exact tG 867 (by decide +kernel) (by decide +kernel)) (tG 869 (by decide +kernel) (by decide +kernel)) (sG 30 (by decide +kernel) (by decide +kernel)) (tG 13 (by decide +kernel) (by decide +kernel)) (tG 870 (by decide +kernel) (by decide +kernel)) (by decide +kernel)
theorem ct_MO_162 {q : MM} (hq : q.1 = R_MO) : CallTo q m_MO_signOf (.invokevirtual 162) 1 (some (some R_MO)) := ct_V (by rw [hq]; exact tG 875 (by decide +kernel) (by decide +kernel)) (tG 877 (by decide +kernel) (by decide +kernel)) (sG 32 (by decide +kernel) (by decide +kernel)) (tG 13 (by decide +kernel) (by decide +kernel)) (tG 878 (by decide +kernel) (by decide +kernel)) (by decide +kernel)
theorem ct_MO_165 {q : MM} (hq : q.1 = R_MO) : CallTo q m_MO_between (.invokevirtual 165) 2 (some (some R_MO)) := ct_V (by rw [hq]; exact tG 879 (by decide +kernel) (by decide +kernel)) (tG 881 (by decide +kernel) (by decide +kernel)) (sG 33 (by decide +kernel) (by decide +kernel)) (tG 13 (by decide +kernel) (by decide +kernel)) (tG 882 (by decide +kernel) (by decide +kernel)) (by decide +kernel)
theorem ct_MO_168 {q : MM} (hq : q.1 = R_MO) : CallTo q m_MO_eRead (.invokevirtual 168) 1 (some (some R_MO)) := ct_V (by rw [hq]; exact tG 851 (by decide +kernel) (by decide +kernel)) (tG 853 (by decide +kernel) (by decide +kernel)) (sG 27 (by decide +kernel) (by decide +kernel)) (tG 13 (by decide +kernel) (by decide +kernel)) (tG 854 (by decide +kernel) (by decide +kernel)) (by decide +kernel)
theorem ct_MO_172 {q : MM} (hq : q.1 = R_MO) : CallTo q m_MO_two (.invokestatic 172) 3 none := ct_So (by rw [hq]; exact tG 1051 (by decide +kernel) (by decide +kernel)) (tG 1052 (by decide +kernel) (by decide +kernel)) (tG 13 (by decide +kernel) (by decide +kernel)) (tG 1053 (by decide +kernel) (by decide +kernel)) (by decide +kernel)
theorem ct_MO_176 {q : MM} (hq : q.1 = R_MO) : CallTo q m_MO_says (.invokevirtual 176) 2 (some (some R_MO)) := ct_V (by rw [hq]; exact tG 1047 (by decide +kernel) (by decide +kernel)) (tG 1049 (by decide +kernel) (by decide +kernel)) (sG 39 (by decide +kernel) (by decide +kernel)) (tG 13 (by decide +kernel) (by decide +kernel)) (tG 1050 (by decide +kernel) (by decide +kernel)) (by decide +kernel)
theorem ct_MO_179 {q : MM} (hq : q.1 = R_MO) : CallTo q m_MO_within (.invokestatic 179) 3 none := ct_So (by rw [hq]; exact tG 1054 (by decide +kernel) (by decide +kernel)) (tG 1055 (by decide +kernel) (by decide +kernel)) (tG 13 (by decide +kernel) (by decide +kernel)) (tG 1056 (by decide +kernel) (by decide +kernel)) (by decide +kernel)
theorem ct_MO_182 {q : MM} (hq : q.1 = R_MO) : CallTo q m_MO_isHouse (.invokevirtual 182) 2 (some (some R_MO)) := ct_V (by rw [hq]; exact tG 1036 (by decide +kernel) (by decide +kernel)) (tG 1038 (by decide +kernel) (by decide +kernel)) (sG 37 (by decide +kernel) (by decide +kernel)) (tG 13 (by decide +kernel) (by decide +kernel)) (tG 1039 (by decide +kernel) (by decide +kernel)) (by decide +kernel)
theorem ct_MO_185 {q : MM} (hq : q.1 = R_MO) : CallTo q m_MO_isMany (.invokestatic 185) 1 none := ct_So (by rw [hq]; exact tG 1040 (by decide +kernel) (by decide +kernel)) (tG 1041 (by decide +kernel) (by decide +kernel)) (tG 13 (by decide +kernel) (by decide +kernel)) (tG 1042 (by decide +kernel) (by decide +kernel)) (by decide +kernel)
theorem ct_MO_188 {q : MM} (hq : q.1 = R_MO) : CallTo q m_MO_asksOf (.invokevirtual 188) 6 (some (some R_MO)) := ct_V (by rw [hq]; exact tG 1043 (by decide +kernel) (by decide +kernel)) (tG 1045 (by decide +kernel) (by decide +kernel)) (sG 38 (by decide +kernel) (by decide +kernel)) (tG 13 (by decide +kernel) (by decide +kernel)) (tG 1046 (by decide +kernel) (by decide +kernel)) (by decide +kernel)
theorem ct_MO_192 {q : MM} (hq : q.1 = R_MO) : CallTo q m_MO_comesFree (.invokevirtual 192) 2 (some (some R_MO)) := ct_V (by rw [hq]; exact tG 1073 (by decide +kernel) (by decide +kernel)) (tG 1075 (by decide +kernel) (by decide +kernel)) (sG 41 (by decide +kernel) (by decide +kernel)) (tG 13 (by decide +kernel) (by decide +kernel)) (tG 1076 (by decide +kernel) (by decide +kernel)) (by decide +kernel)
theorem ct_MO_195 {q : MM} (hq : q.1 = R_MO) : CallTo q m_MO_links (.invokevirtual 195) 3 (some (some R_MO)) := ct_V (by rw [hq]; exact tG 1069 (by decide +kernel) (by decide +kernel)) (tG 1071 (by decide +kernel) (by decide +kernel)) (sG 40 (by decide +kernel) (by decide +kernel)) (tG 13 (by decide +kernel) (by decide +kernel)) (tG 1072 (by decide +kernel) (by decide +kernel)) (by decide +kernel)
theorem ct_MO_199 {q : MM} (hq : q.1 = R_MO) : CallTo q m_MO_isFree (.invokevirtual 199) 3 (some (some R_MO)) := ct_V (by rw [hq]; exact tG 1101 (by decide +kernel) (by decide +kernel)) (tG 1103 (by decide +kernel) (by decide +kernel)) (sG 46 (by decide +kernel) (by decide +kernel)) (tG 13 (by decide +kernel) (by decide +kernel)) (tG 1104 (by decide +kernel) (by decide +kernel)) (by decide +kernel)
theorem ct_MO_203 {q : MM} (hq : q.1 = R_MO) : CallTo q m_MO_weighs (.invokevirtual 203) 3 (some (some R_MO)) := ct_V (by rw [hq]; exact tG 1105 (by decide +kernel) (by decide +kernel)) (tG 1107 (by decide +kernel) (by decide +kernel)) (sG 47 (by decide +kernel) (by decide +kernel)) (tG 13 (by decide +kernel) (by decide +kernel)) (tG 1108 (by decide +kernel) (by decide +kernel)) (by decide +kernel)
theorem ct_MO_206 {q : MM} (hq : q.1 = R_MO) : CallTo q m_MO_holdsIt (.invokevirtual 206) 3 (some (some R_MO)) := ct_V (by rw [hq]; exact tG 1109 (by decide +kernel) (by decide +kernel)) (tG 1111 (by decide +kernel) (by decide +kernel)) (sG 48 (by decide +kernel) (by decide +kernel)) (tG 13 (by decide +kernel) (by decide +kernel)) (tG 1112 (by decide +kernel) (by decide +kernel)) (by decide +kernel)
theorem ct_MO_209 {q : MM} (hq : q.1 = R_MO) : CallTo q m_MO_goesDown (.invokevirtual 209) 3 (some (some R_MO)) := ct_V (by rw [hq]; exact tG 1113 (by decide +kernel) (by decide +kernel)) (tG 1115 (by decide +kernel) (by decide +kernel)) (sG 49 (by decide +kernel) (by decide +kernel)) (tG 13 (by decide +kernel) (by decide +kernel)) (tG 1116 (by decide +kernel) (by decide +kernel)) (by decide +kernel)
theorem ct_MO_225 {q : MM} (hq : q.1 = R_MO) : CallTo q m_MO_alone (.invokevirtual 225) 3 (some (some R_MO)) := ct_V (by rw [hq]; exact tG 1097 (by decide +kernel) (by decide +kernel)) (tG 1099 (by decide +kernel) (by decide +kernel)) (sG 45 (by decide +kernel) (by decide +kernel)) (tG 13 (by decide +kernel) (by decide +kernel)) (tG 1100 (by decide +kernel) (by decide +kernel)) (by decide +kernel)
theorem ct_MO_228 {q : MM} (hq : q.1 = R_MO) : CallTo q m_MO_catches (.invokevirtual 228) 1 (some (some R_MO)) := ct_V (by rw [hq]; exact tG 1117 (by decide +kernel) (by decide +kernel)) (tG 1119 (by decide +kernel) (by decide +kernel)) (sG 50 (by decide +kernel) (by decide +kernel)) (tG 13 (by decide +kernel) (by decide +kernel)) (tG 1120 (by decide +kernel) (by decide +kernel)) (by decide +kernel)
theorem ct_MO_231 {q : MM} (hq : q.1 = R_MO) : CallTo q m_MO_chained (.invokevirtual 231) 5 (some (some R_MO)) := ct_V (by rw [hq]; exact tG 1124 (by decide +kernel) (by decide +kernel)) (tG 1126 (by decide +kernel) (by decide +kernel)) (sG 51 (by decide +kernel) (by decide +kernel)) (tG 13 (by decide +kernel) (by decide +kernel)) (tG 1127 (by decide +kernel) (by decide +kernel)) (by decide +kernel)
theorem ct_MO_235 {q : MM} (hq : q.1 = R_MO) : CallTo q m_MO_minute (.invokevirtual 235) 2 (some (some R_MO)) := ct_V (by rw [hq]; exact tG 1093 (by decide +kernel) (by decide +kernel)) (tG 1095 (by decide +kernel) (by decide +kernel)) (sG 44 (by decide +kernel) (by decide +kernel)) (tG 13 (by decide +kernel) (by decide +kernel)) (tG 1096 (by decide +kernel) (by decide +kernel)) (by decide +kernel)
theorem ct_MO_238 {q : MM} (hq : q.1 = R_MO) : CallTo q m_MO_livesBy (.invokevirtual 238) 2 (some (some R_MO)) := ct_V (by rw [hq]; exact tG 1089 (by decide +kernel) (by decide +kernel)) (tG 1091 (by decide +kernel) (by decide +kernel)) (sG 43 (by decide +kernel) (by decide +kernel)) (tG 13 (by decide +kernel) (by decide +kernel)) (tG 1092 (by decide +kernel) (by decide +kernel)) (by decide +kernel)
theorem ct_MO_241 {q : MM} (hq : q.1 = R_MO) : CallTo q m_MO_lives (.invokevirtual 241) 2 (some (some R_MO)) := ct_V (by rw [hq]; exact tG 1085 (by decide +kernel) (by decide +kernel)) (tG 1087 (by decide +kernel) (by decide +kernel)) (sG 42 (by decide +kernel) (by decide +kernel)) (tG 13 (by decide +kernel) (by decide +kernel)) (tG 1088 (by decide +kernel) (by decide +kernel)) (by decide +kernel)
theorem ct_MO_244 {q : MM} (hq : q.1 = R_MO) : CallTo q m_MO_sumOf (.invokevirtual 244) 2 (some (some R_MO)) := ct_V (by rw [hq]; exact tG 1132 (by decide +kernel) (by decide +kernel)) (tG 1134 (by decide +kernel) (by decide +kernel)) (sG 52 (by decide +kernel) (by decide +kernel)) (tG 13 (by decide +kernel) (by decide +kernel)) (tG 1135 (by decide +kernel) (by decide +kernel)) (by decide +kernel)
theorem ct_MO_247 {q : MM} (hq : q.1 = R_MO) : CallTo q m_MO_whenOf (.invokevirtual 247) 2 (some (some R_MO)) := ct_V (by rw [hq]; exact tG 1140 (by decide +kernel) (by decide +kernel)) (tG 1142 (by decide +kernel) (by decide +kernel)) (sG 53 (by decide +kernel) (by decide +kernel)) (tG 13 (by decide +kernel) (by decide +kernel)) (tG 1143 (by decide +kernel) (by decide +kernel)) (by decide +kernel)
theorem ct_MO_250 {q : MM} (hq : q.1 = R_MO) : CallTo q m_MO_downNow (.invokevirtual 250) 1 (some (some R_MO)) := ct_V (by rw [hq]; exact tG 1160 (by decide +kernel) (by decide +kernel)) (tG 1162 (by decide +kernel) (by decide +kernel)) (sG 55 (by decide +kernel) (by decide +kernel)) (tG 13 (by decide +kernel) (by decide +kernel)) (tG 1163 (by decide +kernel) (by decide +kernel)) (by decide +kernel)
theorem ct_MO_253 {q : MM} (hq : q.1 = R_MO) : CallTo q m_MO_downs (.invokevirtual 253) 2 (some (some R_MO)) := ct_V (by rw [hq]; exact tG 1156 (by decide +kernel) (by decide +kernel)) (tG 1158 (by decide +kernel) (by decide +kernel)) (sG 54 (by decide +kernel) (by decide +kernel)) (tG 13 (by decide +kernel) (by decide +kernel)) (tG 1159 (by decide +kernel) (by decide +kernel)) (by decide +kernel)
theorem ct_MO_256 {q : MM} (hq : q.1 = R_MO) : CallTo q m_MO_keeps (.invokevirtual 256) 1 (some (some R_MO)) := ct_V (by rw [hq]; exact tG 1172 (by decide +kernel) (by decide +kernel)) (tG 1174 (by decide +kernel) (by decide +kernel)) (sG 56 (by decide +kernel) (by decide +kernel)) (tG 13 (by decide +kernel) (by decide +kernel)) (tG 1175 (by decide +kernel) (by decide +kernel)) (by decide +kernel)
theorem ct_MO_259 {q : MM} (hq : q.1 = R_MO) : CallTo q m_MO_laysBack (.invokevirtual 259) 1 (some (some R_MO)) := ct_V (by rw [hq]; exact tG 1176 (by decide +kernel) (by decide +kernel)) (tG 1178 (by decide +kernel) (by decide +kernel)) (sG 57 (by decide +kernel) (by decide +kernel)) (tG 13 (by decide +kernel) (by decide +kernel)) (tG 1179 (by decide +kernel) (by decide +kernel)) (by decide +kernel)
theorem ct_MO_262 {q : MM} (hq : q.1 = R_MO) : CallTo q m_MO_sheetWrong (.invokevirtual 262) 2 (some (some R_MO)) := ct_V (by rw [hq]; exact tG 1204 (by decide +kernel) (by decide +kernel)) (tG 1206 (by decide +kernel) (by decide +kernel)) (sG 59 (by decide +kernel) (by decide +kernel)) (tG 13 (by decide +kernel) (by decide +kernel)) (tG 1207 (by decide +kernel) (by decide +kernel)) (by decide +kernel)
theorem ct_MO_265 {q : MM} (hq : q.1 = R_MO) : CallTo q m_MO_toldWrong (.invokevirtual 265) 3 (some (some R_MO)) := ct_V (by rw [hq]; exact tG 1200 (by decide +kernel) (by decide +kernel)) (tG 1202 (by decide +kernel) (by decide +kernel)) (sG 58 (by decide +kernel) (by decide +kernel)) (tG 13 (by decide +kernel) (by decide +kernel)) (tG 1203 (by decide +kernel) (by decide +kernel)) (by decide +kernel)
theorem ct_MO_268 {q : MM} (hq : q.1 = R_MO) : CallTo q m_MO_unlike (.invokevirtual 268) 3 (some (some R_MO)) := ct_V (by rw [hq]; exact tG 1208 (by decide +kernel) (by decide +kernel)) (tG 1210 (by decide +kernel) (by decide +kernel)) (sG 60 (by decide +kernel) (by decide +kernel)) (tG 13 (by decide +kernel) (by decide +kernel)) (tG 1211 (by decide +kernel) (by decide +kernel)) (by decide +kernel)
theorem ct_MO_272 {q : MM} (hq : q.1 = R_MO) : CallTo q m_MO_isDrawn (.invokestatic 272) 3 none := ct_So (by rw [hq]; exact tG 1232 (by decide +kernel) (by decide +kernel)) (tG 1233 (by decide +kernel) (by decide +kernel)) (tG 13 (by decide +kernel) (by decide +kernel)) (tG 1234 (by decide +kernel) (by decide +kernel)) (by decide +kernel)
theorem ct_MO_275 {q : MM} (hq : q.1 = R_MO) : CallTo q m_MO_downsBy (.invokevirtual 275) 4 (some (some R_MO)) := ct_V (by rw [hq]; exact tG 1236 (by decide +kernel) (by decide +kernel)) (tG 1238 (by decide +kernel) (by decide +kernel)) (sG 61 (by decide +kernel) (by decide +kernel)) (tG 13 (by decide +kernel) (by decide +kernel)) (tG 1239 (by decide +kernel) (by decide +kernel)) (by decide +kernel)
theorem ct_MO_282 {q : MM} (hq : q.1 = R_MO) : CallTo q m_MO_lowest (.invokestatic 282) 3 none := ct_So (by rw [hq]; exact tG 1246 (by decide +kernel) (by decide +kernel)) (tG 1247 (by decide +kernel) (by decide +kernel)) (tG 13 (by decide +kernel) (by decide +kernel)) (tG 1248 (by decide +kernel) (by decide +kernel)) (by decide +kernel)
theorem ct_MO_296 {q : MM} (hq : q.1 = R_MO) : CallTo q m_MO_house (.invokevirtual 296) 4 (some (some R_MO)) := ct_V (by rw [hq]; exact tG 1273 (by decide +kernel) (by decide +kernel)) (tG 1058 (by decide +kernel) (by decide +kernel)) (tG 1059 (by decide +kernel) (by decide +kernel)) (tG 13 (by decide +kernel) (by decide +kernel)) (tG 1060 (by decide +kernel) (by decide +kernel)) (by decide +kernel)
theorem ct_MO_299 {q : MM} (hq : q.1 = R_MO) : CallTo q m_MO_isUnder (.invokestatic 299) 2 none := ct_So (by rw [hq]; exact tG 1278 (by decide +kernel) (by decide +kernel)) (tG 1279 (by decide +kernel) (by decide +kernel)) (tG 13 (by decide +kernel) (by decide +kernel)) (tG 1280 (by decide +kernel) (by decide +kernel)) (by decide +kernel)
theorem ct_MO_93 {q : MM} (hq : q.1 = R_MO) : CallTo q m_MO_in (.invokestatic 93) 3 none := ct_So (by rw [hq]; exact tG 844 (by decide +kernel) (by decide +kernel)) (tG 845 (by decide +kernel) (by decide +kernel)) (tG 13 (by decide +kernel) (by decide +kernel)) (tG 846 (by decide +kernel) (by decide +kernel)) (by decide +kernel)
theorem ct_MO_97 {q : MM} (hq : q.1 = R_MO) : CallTo q m_MO_isLesser (.invokevirtual 97) 2 (some (some R_MO)) := ct_V (by rw [hq]; exact tG 1012 (by decide +kernel) (by decide +kernel)) (tG 1014 (by decide +kernel) (by decide +kernel)) (sG 35 (by decide +kernel) (by decide +kernel)) (tG 13 (by decide +kernel) (by decide +kernel)) (tG 1015 (by decide +kernel) (by decide +kernel)) (by decide +kernel)
theorem ct_Reader_101 {q : MM} (hq : q.1 = R_Reader) : CallTo q m_Reader_isWord (.invokevirtual 101) 2 (some (some R_Reader)) := ct_V (by rw [hq]; exact tG 273 (by decide +kernel) (by decide +kernel)) (tG 275 (by decide +kernel) (by decide +kernel)) (sG 2 (by decide +kernel) (by decide +kernel)) (tG 4 (by decide +kernel) (by decide +kernel)) (tG 276 (by decide +kernel) (by decide +kernel)) (by decide +kernel)
theorem ct_Reader_115 {q : MM} (hq : q.1 = R_Reader) : CallTo q m_Reader_nameRead (.invokevirtual 115) 1 (some (some R_Reader)) := ct_V (by rw [hq]; exact tG 284 (by decide +kernel) (by decide +kernel)) (tG 286 (by decide +kernel) (by decide +kernel)) (sG 3 (by decide +kernel) (by decide +kernel)) (tG 4 (by decide +kernel) (by decide +kernel)) (tG 287 (by decide +kernel) (by decide +kernel)) (by decide +kernel)
theorem ct_Reader_131 {q : MM} (hq : q.1 = R_Reader) : CallTo q m_Str_length (.invokevirtual 131) 1 (some (some "java/lang/String")) := ct_V (by rw [hq]; exact tG 277 (by decide +kernel) (by decide +kernel)) (tG 204 (by decide +kernel) (by decide +kernel)) (tG 205 (by decide +kernel) (by decide +kernel)) (tG 8 (by decide +kernel) (by decide +kernel)) (tG 206 (by decide +kernel) (by decide +kernel)) (by decide +kernel)
theorem ct_Reader_136 {q : MM} (hq : q.1 = R_Reader) : CallTo q m_Str_charAt (.invokevirtual 136) 2 (some (some "java/lang/String")) := ct_V (by rw [hq]; exact tG 278 (by decide +kernel) (by decide +kernel)) (tG 214 (by decide +kernel) (by decide +kernel)) (tG 215 (by decide +kernel) (by decide +kernel)) (tG 8 (by decide +kernel) (by decide +kernel)) (tG 216 (by decide +kernel) (by decide +kernel)) (by decide +kernel)
theorem ct_Reader_140 {q : MM} (hq : q.1 = R_Reader) : CallTo q m_UF_within (.invokestatic 140) 3 none := ct_SN (host := "UpperFloors") (by rw [hq]; decide +kernel) (tG 266 (by decide +kernel) (by decide +kernel)) (tG 1 (by decide +kernel) (by decide +kernel)) (tG 267 (by decide +kernel) (by decide +kernel)) (by decide +kernel)
theorem ct_Reader_15 {q : MM} (hq : q.1 = R_Reader) : CallTo q m_Math_min (.invokestatic 15) 2 none := ct_So (by rw [hq]; exact tG 255 (by decide +kernel) (by decide +kernel)) (tG 256 (by decide +kernel) (by decide +kernel)) (tG 12 (by decide +kernel) (by decide +kernel)) (tG 257 (by decide +kernel) (by decide +kernel)) (by decide +kernel)
theorem ct_Reader_37 {q : MM} (hq : q.1 = R_Reader) : CallTo q m_Reader_next (.invokevirtual 37) 1 (some (some R_Reader)) := ct_V (by rw [hq]; exact tG 258 (by decide +kernel) (by decide +kernel)) (tG 260 (by decide +kernel) (by decide +kernel)) (sG 0 (by decide +kernel) (by decide +kernel)) (tG 4 (by decide +kernel) (by decide +kernel)) (tG 261 (by decide +kernel) (by decide +kernel)) (by decide +kernel)
theorem ct_Reader_43 {q : MM} (hq : q.1 = R_Reader) : CallTo q m_Reader_take (.invokevirtual 43) 2 (some (some R_Reader)) := ct_V (by rw [hq]; exact tG 305 (by decide +kernel) (by decide +kernel)) (tG 307 (by decide +kernel) (by decide +kernel)) (sG 6 (by decide +kernel) (by decide +kernel)) (tG 4 (by decide +kernel) (by decide +kernel)) (tG 308 (by decide +kernel) (by decide +kernel)) (by decide +kernel)
theorem ct_Reader_47 {q : MM} (hq : q.1 = R_Reader) : CallTo q m_Reader_either (.invokevirtual 47) 2 (some (some R_Reader)) := ct_V (by rw [hq]; exact tG 309 (by decide +kernel) (by decide +kernel)) (tG 311 (by decide +kernel) (by decide +kernel)) (sG 7 (by decide +kernel) (by decide +kernel)) (tG 4 (by decide +kernel) (by decide +kernel)) (tG 312 (by decide +kernel) (by decide +kernel)) (by decide +kernel)
theorem ct_Reader_56 {q : MM} (hq : q.1 = R_Reader) : CallTo q m_Reader_both (.invokevirtual 56) 2 (some (some R_Reader)) := ct_V (by rw [hq]; exact tG 313 (by decide +kernel) (by decide +kernel)) (tG 315 (by decide +kernel) (by decide +kernel)) (sG 8 (by decide +kernel) (by decide +kernel)) (tG 4 (by decide +kernel) (by decide +kernel)) (tG 316 (by decide +kernel) (by decide +kernel)) (by decide +kernel)
theorem ct_Reader_59 {q : MM} (hq : q.1 = R_Reader) : CallTo q m_Law_add (.invokevirtual 59) 2 (some (some R_Law)) := ct_V (by rw [hq]; exact tG 337 (by decide +kernel) (by decide +kernel)) (tG 338 (by decide +kernel) (by decide +kernel)) (tG 339 (by decide +kernel) (by decide +kernel)) (tG 6 (by decide +kernel) (by decide +kernel)) (tG 340 (by decide +kernel) (by decide +kernel)) (by decide +kernel)
theorem ct_Reader_63 {q : MM} (hq : q.1 = R_Reader) : CallTo q m_Reader_unless (.invokevirtual 63) 2 (some (some R_Reader)) := ct_V (by rw [hq]; exact tG 317 (by decide +kernel) (by decide +kernel)) (tG 319 (by decide +kernel) (by decide +kernel)) (sG 9 (by decide +kernel) (by decide +kernel)) (tG 4 (by decide +kernel) (by decide +kernel)) (tG 320 (by decide +kernel) (by decide +kernel)) (by decide +kernel)
theorem ct_Reader_66 {q : MM} (hq : q.1 = R_Reader) : CallTo q m_Reader_compared (.invokevirtual 66) 2 (some (some R_Reader)) := ct_V (by rw [hq]; exact tG 321 (by decide +kernel) (by decide +kernel)) (tG 323 (by decide +kernel) (by decide +kernel)) (sG 10 (by decide +kernel) (by decide +kernel)) (tG 4 (by decide +kernel) (by decide +kernel)) (tG 324 (by decide +kernel) (by decide +kernel)) (by decide +kernel)
theorem ct_Reader_69 {q : MM} (hq : q.1 = R_Reader) : CallTo q m_Reader_sum (.invokevirtual 69) 2 (some (some R_Reader)) := ct_V (by rw [hq]; exact tG 325 (by decide +kernel) (by decide +kernel)) (tG 327 (by decide +kernel) (by decide +kernel)) (sG 11 (by decide +kernel) (by decide +kernel)) (tG 4 (by decide +kernel) (by decide +kernel)) (tG 328 (by decide +kernel) (by decide +kernel)) (by decide +kernel)
theorem ct_Reader_72 {q : MM} (hq : q.1 = R_Reader) : CallTo q m_Reader_term (.invokevirtual 72) 2 (some (some R_Reader)) := ct_V (by rw [hq]; exact tG 329 (by decide +kernel) (by decide +kernel)) (tG 331 (by decide +kernel) (by decide +kernel)) (sG 12 (by decide +kernel) (by decide +kernel)) (tG 4 (by decide +kernel) (by decide +kernel)) (tG 332 (by decide +kernel) (by decide +kernel)) (by decide +kernel)
theorem ct_Reader_75 {q : MM} (hq : q.1 = R_Reader) : CallTo q m_Reader_one (.invokevirtual 75) 2 (some (some R_Reader)) := ct_V (by rw [hq]; exact tG 333 (by decide +kernel) (by decide +kernel)) (tG 335 (by decide +kernel) (by decide +kernel)) (sG 13 (by decide +kernel) (by decide +kernel)) (tG 4 (by decide +kernel) (by decide +kernel)) (tG 336 (by decide +kernel) (by decide +kernel)) (by decide +kernel)
theorem ct_Reader_81 {q : MM} (hq : q.1 = R_Reader) : CallTo q m_Law_addName (.invokevirtual 81) 2 (some (some R_Law)) := ct_V (by rw [hq]; exact tG 341 (by decide +kernel) (by decide +kernel)) (tG 342 (by decide +kernel) (by decide +kernel)) (tG 343 (by decide +kernel) (by decide +kernel)) (tG 6 (by decide +kernel) (by decide +kernel)) (tG 344 (by decide +kernel) (by decide +kernel)) (by decide +kernel)
theorem ct_Reader_84 {q : MM} (hq : q.1 = R_Reader) : CallTo q m_Reader_isLetter (.invokestatic 84) 1 none := ct_So (by rw [hq]; exact tG 262 (by decide +kernel) (by decide +kernel)) (tG 263 (by decide +kernel) (by decide +kernel)) (tG 4 (by decide +kernel) (by decide +kernel)) (tG 264 (by decide +kernel) (by decide +kernel)) (by decide +kernel)
theorem ct_Reader_87 {q : MM} (hq : q.1 = R_Reader) : CallTo q m_Reader_word (.invokevirtual 87) 1 (some (some R_Reader)) := ct_V (by rw [hq]; exact tG 268 (by decide +kernel) (by decide +kernel)) (tG 270 (by decide +kernel) (by decide +kernel)) (sG 1 (by decide +kernel) (by decide +kernel)) (tG 4 (by decide +kernel) (by decide +kernel)) (tG 271 (by decide +kernel) (by decide +kernel)) (by decide +kernel)
theorem ct_Reader_90 {q : MM} (hq : q.1 = R_Reader) : CallTo q m_Reader_isDigit (.invokestatic 90) 1 none := ct_So (by rw [hq]; exact tG 294 (by decide +kernel) (by decide +kernel)) (tG 295 (by decide +kernel) (by decide +kernel)) (tG 4 (by decide +kernel) (by decide +kernel)) (tG 296 (by decide +kernel) (by decide +kernel)) (by decide +kernel)
theorem ct_Reader_93 {q : MM} (hq : q.1 = R_Reader) : CallTo q m_Reader_number (.invokevirtual 93) 1 (some (some R_Reader)) := ct_V (by rw [hq]; exact tG 297 (by decide +kernel) (by decide +kernel)) (tG 299 (by decide +kernel) (by decide +kernel)) (sG 4 (by decide +kernel) (by decide +kernel)) (tG 4 (by decide +kernel) (by decide +kernel)) (tG 300 (by decide +kernel) (by decide +kernel)) (by decide +kernel)
theorem ct_Reader_96 {q : MM} (hq : q.1 = R_Reader) : CallTo q m_Reader_sign (.invokevirtual 96) 1 (some (some R_Reader)) := ct_V (by rw [hq]; exact tG 301 (by decide +kernel) (by decide +kernel)) (tG 303 (by decide +kernel) (by decide +kernel)) (sG 5 (by decide +kernel) (by decide +kernel)) (tG 4 (by decide +kernel) (by decide +kernel)) (tG 304 (by decide +kernel) (by decide +kernel)) (by decide +kernel)
theorem ct_Sheet_22 {q : MM} (hq : q.1 = R_Sheet) : CallTo q m_Sheet_has (.invokevirtual 22) 2 (some (some R_Sheet)) := ct_V (by rw [hq]; exact tG 760 (by decide +kernel) (by decide +kernel)) (tG 761 (by decide +kernel) (by decide +kernel)) (tG 762 (by decide +kernel) (by decide +kernel)) (tG 7 (by decide +kernel) (by decide +kernel)) (tG 763 (by decide +kernel) (by decide +kernel)) (by decide +kernel)
theorem ct_Town_34 {q : MM} (hq : q.1 = R_Town) : CallTo q m_UF_within (.invokestatic 34) 3 none := ct_SN (host := "UpperFloors") (by rw [hq]; decide +kernel) (tG 266 (by decide +kernel) (by decide +kernel)) (tG 1 (by decide +kernel) (by decide +kernel)) (tG 267 (by decide +kernel) (by decide +kernel)) (by decide +kernel)
theorem ct_Town_38 {q : MM} (hq : q.1 = R_Town) : CallTo q m_Town_loosen (.invokevirtual 38) 2 (some (some R_Town)) := ct_V (by rw [hq]; exact tG 536 (by decide +kernel) (by decide +kernel)) (tG 537 (by decide +kernel) (by decide +kernel)) (tG 538 (by decide +kernel) (by decide +kernel)) (tG 2 (by decide +kernel) (by decide +kernel)) (tG 539 (by decide +kernel) (by decide +kernel)) (by decide +kernel)
theorem ct_Town_42 {q : MM} (hq : q.1 = R_Town) : CallTo q m_Town_leads (.invokevirtual 42) 2 (some (some R_Town)) := ct_V (by rw [hq]; exact tG 389 (by decide +kernel) (by decide +kernel)) (tG 390 (by decide +kernel) (by decide +kernel)) (tG 391 (by decide +kernel) (by decide +kernel)) (tG 2 (by decide +kernel) (by decide +kernel)) (tG 392 (by decide +kernel) (by decide +kernel)) (by decide +kernel)
theorem ct_Town_46 {q : MM} (hq : q.1 = R_Town) : CallTo q m_Town_isDown (.invokevirtual 46) 2 (some (some R_Town)) := ct_V (by rw [hq]; exact tG 644 (by decide +kernel) (by decide +kernel)) (tG 645 (by decide +kernel) (by decide +kernel)) (tG 646 (by decide +kernel) (by decide +kernel)) (tG 2 (by decide +kernel) (by decide +kernel)) (tG 647 (by decide +kernel) (by decide +kernel)) (by decide +kernel)
theorem ct_Town_49 {q : MM} (hq : q.1 = R_Town) : CallTo q m_Town_downBits (.invokevirtual 49) 1 (some (some R_Town)) := ct_V (by rw [hq]; exact tG 686 (by decide +kernel) (by decide +kernel)) (tG 641 (by decide +kernel) (by decide +kernel)) (tG 642 (by decide +kernel) (by decide +kernel)) (tG 2 (by decide +kernel) (by decide +kernel)) (tG 643 (by decide +kernel) (by decide +kernel)) (by decide +kernel)
theorem ct_Town_53 {q : MM} (hq : q.1 = R_Town) : CallTo q m_Integer_bitCount (.invokestatic 53) 1 none := ct_So (by rw [hq]; exact tG 687 (by decide +kernel) (by decide +kernel)) (tG 688 (by decide +kernel) (by decide +kernel)) (tG 20 (by decide +kernel) (by decide +kernel)) (tG 689 (by decide +kernel) (by decide +kernel)) (by decide +kernel)
theorem ct_UF_103 {q : MM} (hq : q.1 = R_UF) : CallTo q m_UF_put (.invokevirtual 103) 2 (some (some R_UF)) := ct_V (by rw [hq]; exact tG 405 (by decide +kernel) (by decide +kernel)) (tG 407 (by decide +kernel) (by decide +kernel)) (sG 14 (by decide +kernel) (by decide +kernel)) (tG 1 (by decide +kernel) (by decide +kernel)) (tG 408 (by decide +kernel) (by decide +kernel)) (by decide +kernel)
theorem ct_UF_107 {q : MM} (hq : q.1 = R_UF) : CallTo q m_UF_isHouse (.invokevirtual 107) 2 (some (some R_UF)) := ct_V (by rw [hq]; exact tG 421 (by decide +kernel) (by decide +kernel)) (tG 423 (by decide +kernel) (by decide +kernel)) (sG 15 (by decide +kernel) (by decide +kernel)) (tG 1 (by decide +kernel) (by decide +kernel)) (tG 424 (by decide +kernel) (by decide +kernel)) (by decide +kernel)
theorem ct_UF_110 {q : MM} (hq : q.1 = R_UF) : CallTo q m_UF_ready (.invokevirtual 110) 1 (some (some R_UF)) := ct_V (by rw [hq]; exact tG 425 (by decide +kernel) (by decide +kernel)) (tG 427 (by decide +kernel) (by decide +kernel)) (sG 16 (by decide +kernel) (by decide +kernel)) (tG 1 (by decide +kernel) (by decide +kernel)) (tG 428 (by decide +kernel) (by decide +kernel)) (by decide +kernel)
theorem ct_UF_113 {q : MM} (hq : q.1 = R_UF) : CallTo q m_Dusk_says (.invokevirtual 113) 5 (some (some R_Dusk)) := ct_V (by rw [hq]; exact tG 440 (by decide +kernel) (by decide +kernel)) (tG 441 (by decide +kernel) (by decide +kernel)) (tG 442 (by decide +kernel) (by decide +kernel)) (tG 3 (by decide +kernel) (by decide +kernel)) (tG 443 (by decide +kernel) (by decide +kernel)) (by decide +kernel)
theorem ct_UF_130 {q : MM} (hq : q.1 = R_UF) : CallTo q m_Town_join (.invokevirtual 130) 3 (some (some R_Town)) := ct_V (by rw [hq]; exact tG 532 (by decide +kernel) (by decide +kernel)) (tG 533 (by decide +kernel) (by decide +kernel)) (tG 534 (by decide +kernel) (by decide +kernel)) (tG 2 (by decide +kernel) (by decide +kernel)) (tG 535 (by decide +kernel) (by decide +kernel)) (by decide +kernel)
theorem ct_UF_143 {q : MM} (hq : q.1 = R_UF) : CallTo q m_UF_isSpan (.invokestatic 143) 1 none := ct_So (by rw [hq]; exact tG 549 (by decide +kernel) (by decide +kernel)) (tG 550 (by decide +kernel) (by decide +kernel)) (tG 1 (by decide +kernel) (by decide +kernel)) (tG 551 (by decide +kernel) (by decide +kernel)) (by decide +kernel)
theorem ct_UF_146 {q : MM} (hq : q.1 = R_UF) : CallTo q m_Dusk_go (.invokevirtual 146) 2 (some (some R_Dusk)) := ct_V (by rw [hq]; exact tG 552 (by decide +kernel) (by decide +kernel)) (tG 553 (by decide +kernel) (by decide +kernel)) (tG 554 (by decide +kernel) (by decide +kernel)) (tG 3 (by decide +kernel) (by decide +kernel)) (tG 555 (by decide +kernel) (by decide +kernel)) (by decide +kernel)
theorem ct_UF_161 {q : MM} (hq : q.1 = R_UF) : CallTo q m_Dusk_weighs (.invokevirtual 161) 3 (some (some R_Dusk)) := ct_V (by rw [hq]; exact tG 635 (by decide +kernel) (by decide +kernel)) (tG 579 (by decide +kernel) (by decide +kernel)) (tG 580 (by decide +kernel) (by decide +kernel)) (tG 3 (by decide +kernel) (by decide +kernel)) (tG 581 (by decide +kernel) (by decide +kernel)) (by decide +kernel)
theorem ct_UF_165 {q : MM} (hq : q.1 = R_UF) : CallTo q m_Town_downBits (.invokevirtual 165) 1 (some (some R_Town)) := ct_V (by rw [hq]; exact tG 640 (by decide +kernel) (by decide +kernel)) (tG 641 (by decide +kernel) (by decide +kernel)) (tG 642 (by decide +kernel) (by decide +kernel)) (tG 2 (by decide +kernel) (by decide +kernel)) (tG 643 (by decide +kernel) (by decide +kernel)) (by decide +kernel)
theorem ct_UF_168 {q : MM} (hq : q.1 = R_UF) : CallTo q m_Dusk_hitsTogether (.invokevirtual 168) 1 (some (some R_Dusk)) := ct_V (by rw [hq]; exact tG 648 (by decide +kernel) (by decide +kernel)) (tG 649 (by decide +kernel) (by decide +kernel)) (tG 650 (by decide +kernel) (by decide +kernel)) (tG 3 (by decide +kernel) (by decide +kernel)) (tG 651 (by decide +kernel) (by decide +kernel)) (by decide +kernel)
theorem ct_UF_171 {q : MM} (hq : q.1 = R_UF) : CallTo q m_Town_highTogether (.invokevirtual 171) 1 (some (some R_Town)) := ct_V (by rw [hq]; exact tG 652 (by decide +kernel) (by decide +kernel)) (tG 653 (by decide +kernel) (by decide +kernel)) (tG 654 (by decide +kernel) (by decide +kernel)) (tG 2 (by decide +kernel) (by decide +kernel)) (tG 655 (by decide +kernel) (by decide +kernel)) (by decide +kernel)
theorem ct_UF_174 {q : MM} (hq : q.1 = R_UF) : CallTo q m_Dusk_stillBits (.invokevirtual 174) 1 (some (some R_Dusk)) := ct_V (by rw [hq]; exact tG 656 (by decide +kernel) (by decide +kernel)) (tG 657 (by decide +kernel) (by decide +kernel)) (tG 658 (by decide +kernel) (by decide +kernel)) (tG 3 (by decide +kernel) (by decide +kernel)) (tG 659 (by decide +kernel) (by decide +kernel)) (by decide +kernel)
theorem ct_UF_177 {q : MM} (hq : q.1 = R_UF) : CallTo q m_Dusk_firstDown (.invokevirtual 177) 2 (some (some R_Dusk)) := ct_V (by rw [hq]; exact tG 664 (by decide +kernel) (by decide +kernel)) (tG 665 (by decide +kernel) (by decide +kernel)) (tG 666 (by decide +kernel) (by decide +kernel)) (tG 3 (by decide +kernel) (by decide +kernel)) (tG 667 (by decide +kernel) (by decide +kernel)) (by decide +kernel)
theorem ct_UF_181 {q : MM} (hq : q.1 = R_UF) : CallTo q m_Town_isDown (.invokevirtual 181) 2 (some (some R_Town)) := ct_V (by rw [hq]; exact tG 677 (by decide +kernel) (by decide +kernel)) (tG 645 (by decide +kernel) (by decide +kernel)) (tG 646 (by decide +kernel) (by decide +kernel)) (tG 2 (by decide +kernel) (by decide +kernel)) (tG 647 (by decide +kernel) (by decide +kernel)) (by decide +kernel)
theorem ct_UF_184 {q : MM} (hq : q.1 = R_UF) : CallTo q m_Town_downCount (.invokevirtual 184) 1 (some (some R_Town)) := ct_V (by rw [hq]; exact tG 682 (by decide +kernel) (by decide +kernel)) (tG 683 (by decide +kernel) (by decide +kernel)) (tG 684 (by decide +kernel) (by decide +kernel)) (tG 2 (by decide +kernel) (by decide +kernel)) (tG 685 (by decide +kernel) (by decide +kernel)) (by decide +kernel)
theorem ct_UF_187 {q : MM} (hq : q.1 = R_UF) : CallTo q m_Town_leads (.invokevirtual 187) 2 (some (some R_Town)) := ct_V (by rw [hq]; exact tG 705 (by decide +kernel) (by decide +kernel)) (tG 390 (by decide +kernel) (by decide +kernel)) (tG 391 (by decide +kernel) (by decide +kernel)) (tG 2 (by decide +kernel) (by decide +kernel)) (tG 392 (by decide +kernel) (by decide +kernel)) (by decide +kernel)
theorem ct_UF_190 {q : MM} (hq : q.1 = R_UF) : CallTo q m_Town_loosen (.invokevirtual 190) 2 (some (some R_Town)) := ct_V (by rw [hq]; exact tG 706 (by decide +kernel) (by decide +kernel)) (tG 537 (by decide +kernel) (by decide +kernel)) (tG 538 (by decide +kernel) (by decide +kernel)) (tG 2 (by decide +kernel) (by decide +kernel)) (tG 539 (by decide +kernel) (by decide +kernel)) (by decide +kernel)
theorem ct_UF_193 {q : MM} (hq : q.1 = R_UF) : CallTo q m_Math_min (.invokestatic 193) 2 none := ct_So (by rw [hq]; exact tG 719 (by decide +kernel) (by decide +kernel)) (tG 256 (by decide +kernel) (by decide +kernel)) (tG 12 (by decide +kernel) (by decide +kernel)) (tG 257 (by decide +kernel) (by decide +kernel)) (by decide +kernel)
theorem ct_UF_198 {q : MM} (hq : q.1 = R_UF) : CallTo q m_UF_tellingRefusal (.invokevirtual 198) 2 (some (some R_UF)) := ct_V (by rw [hq]; exact tG 724 (by decide +kernel) (by decide +kernel)) (tG 726 (by decide +kernel) (by decide +kernel)) (sG 23 (by decide +kernel) (by decide +kernel)) (tG 1 (by decide +kernel) (by decide +kernel)) (tG 727 (by decide +kernel) (by decide +kernel)) (by decide +kernel)
theorem ct_UF_201 {q : MM} (hq : q.1 = R_UF) : CallTo q m_Sheet_firstOtherwise (.invokevirtual 201) 2 (some (some R_Sheet)) := ct_V (by rw [hq]; exact tG 731 (by decide +kernel) (by decide +kernel)) (tG 732 (by decide +kernel) (by decide +kernel)) (tG 733 (by decide +kernel) (by decide +kernel)) (tG 7 (by decide +kernel) (by decide +kernel)) (tG 734 (by decide +kernel) (by decide +kernel)) (by decide +kernel)
theorem ct_UF_205 {q : MM} (hq : q.1 = R_UF) : CallTo q m_Dusk_pass (.invokevirtual 205) 3 (some (some R_Dusk)) := ct_V (by rw [hq]; exact tG 739 (by decide +kernel) (by decide +kernel)) (tG 557 (by decide +kernel) (by decide +kernel)) (tG 558 (by decide +kernel) (by decide +kernel)) (tG 3 (by decide +kernel) (by decide +kernel)) (tG 559 (by decide +kernel) (by decide +kernel)) (by decide +kernel)
theorem ct_UF_211 {q : MM} (hq : q.1 = R_UF) : CallTo q m_UF_isSheet (.invokestatic 211) 1 none := ct_So (by rw [hq]; exact tG 728 (by decide +kernel) (by decide +kernel)) (tG 729 (by decide +kernel) (by decide +kernel)) (tG 1 (by decide +kernel) (by decide +kernel)) (tG 730 (by decide +kernel) (by decide +kernel)) (by decide +kernel)
theorem ct_UF_214 {q : MM} (hq : q.1 = R_UF) : CallTo q m_Sheet_renew (.invokevirtual 214) 3 (some (some R_Sheet)) := ct_V (by rw [hq]; exact tG 752 (by decide +kernel) (by decide +kernel)) (tG 753 (by decide +kernel) (by decide +kernel)) (tG 754 (by decide +kernel) (by decide +kernel)) (tG 7 (by decide +kernel) (by decide +kernel)) (tG 755 (by decide +kernel) (by decide +kernel)) (by decide +kernel)
theorem ct_UF_217 {q : MM} (hq : q.1 = R_UF) : CallTo q m_Sheet_write (.invokevirtual 217) 3 (some (some R_Sheet)) := ct_V (by rw [hq]; exact tG 756 (by decide +kernel) (by decide +kernel)) (tG 757 (by decide +kernel) (by decide +kernel)) (tG 758 (by decide +kernel) (by decide +kernel)) (tG 7 (by decide +kernel) (by decide +kernel)) (tG 759 (by decide +kernel) (by decide +kernel)) (by decide +kernel)
theorem ct_UF_220 {q : MM} (hq : q.1 = R_UF) : CallTo q m_UF_isDraw (.invokestatic 220) 3 none := ct_So (by rw [hq]; exact tG 768 (by decide +kernel) (by decide +kernel)) (tG 769 (by decide +kernel) (by decide +kernel)) (tG 1 (by decide +kernel) (by decide +kernel)) (tG 770 (by decide +kernel) (by decide +kernel)) (by decide +kernel)
theorem ct_UF_223 {q : MM} (hq : q.1 = R_UF) : CallTo q m_UF_drawnDown (.invokevirtual 223) 4 (some (some R_UF)) := ct_V (by rw [hq]; exact tG 772 (by decide +kernel) (by decide +kernel)) (tG 774 (by decide +kernel) (by decide +kernel)) (sG 24 (by decide +kernel) (by decide +kernel)) (tG 1 (by decide +kernel) (by decide +kernel)) (tG 775 (by decide +kernel) (by decide +kernel)) (by decide +kernel)
theorem ct_UF_228 {q : MM} (hq : q.1 = R_UF) : CallTo q m_Town_become (.invokevirtual 228) 2 (some (some R_Town)) := ct_V (by rw [hq]; exact tG 788 (by decide +kernel) (by decide +kernel)) (tG 434 (by decide +kernel) (by decide +kernel)) (tG 435 (by decide +kernel) (by decide +kernel)) (tG 2 (by decide +kernel) (by decide +kernel)) (tG 436 (by decide +kernel) (by decide +kernel)) (by decide +kernel)
theorem ct_UF_239 {q : MM} (hq : q.1 = R_UF) : CallTo q m_Sheet_has (.invokevirtual 239) 2 (some (some R_Sheet)) := ct_V (by rw [hq]; exact tG 801 (by decide +kernel) (by decide +kernel)) (tG 761 (by decide +kernel) (by decide +kernel)) (tG 762 (by decide +kernel) (by decide +kernel)) (tG 7 (by decide +kernel) (by decide +kernel)) (tG 763 (by decide +kernel) (by decide +kernel)) (by decide +kernel)
theorem ct_UF_278 {q : MM} (hq : q.1 = R_UF) : CallTo q m_Dusk_begin (.invokevirtual 278) 4 (some (some R_Dusk)) := ct_V (by rw [hq]; exact tG 429 (by decide +kernel) (by decide +kernel)) (tG 430 (by decide +kernel) (by decide +kernel)) (tG 431 (by decide +kernel) (by decide +kernel)) (tG 3 (by decide +kernel) (by decide +kernel)) (tG 432 (by decide +kernel) (by decide +kernel)) (by decide +kernel)
theorem ct_UF_72 {q : MM} (hq : q.1 = R_UF) : CallTo q m_Reader_read (.invokevirtual 72) 4 (some (some R_Reader)) := ct_V (by rw [hq]; exact tG 251 (by decide +kernel) (by decide +kernel)) (tG 252 (by decide +kernel) (by decide +kernel)) (tG 253 (by decide +kernel) (by decide +kernel)) (tG 4 (by decide +kernel) (by decide +kernel)) (tG 254 (by decide +kernel) (by decide +kernel)) (by decide +kernel)
theorem ct_UF_83 {q : MM} (hq : q.1 = R_UF) : CallTo q m_Town_chains (.invokevirtual 83) 1 (some (some R_Town)) := ct_V (by rw [hq]; exact tG 385 (by decide +kernel) (by decide +kernel)) (tG 386 (by decide +kernel) (by decide +kernel)) (tG 387 (by decide +kernel) (by decide +kernel)) (tG 2 (by decide +kernel) (by decide +kernel)) (tG 388 (by decide +kernel) (by decide +kernel)) (by decide +kernel)
theorem ct_UF_86 {q : MM} (hq : q.1 = R_UF) : CallTo q m_Town_crowd (.invokevirtual 86) 1 (some (some R_Town)) := ct_V (by rw [hq]; exact tG 393 (by decide +kernel) (by decide +kernel)) (tG 394 (by decide +kernel) (by decide +kernel)) (tG 395 (by decide +kernel) (by decide +kernel)) (tG 2 (by decide +kernel) (by decide +kernel)) (tG 396 (by decide +kernel) (by decide +kernel)) (by decide +kernel)
theorem ct_UF_95 {q : MM} (hq : q.1 = R_UF) : CallTo q m_UF_within (.invokestatic 95) 3 none := ct_So (by rw [hq]; exact tG 401 (by decide +kernel) (by decide +kernel)) (tG 266 (by decide +kernel) (by decide +kernel)) (tG 1 (by decide +kernel) (by decide +kernel)) (tG 267 (by decide +kernel) (by decide +kernel)) (by decide +kernel)
theorem ct_UF_99 {q : MM} (hq : q.1 = R_UF) : CallTo q m_UF_isByte (.invokestatic 99) 1 none := ct_So (by rw [hq]; exact tG 402 (by decide +kernel) (by decide +kernel)) (tG 403 (by decide +kernel) (by decide +kernel)) (tG 1 (by decide +kernel) (by decide +kernel)) (tG 404 (by decide +kernel) (by decide +kernel)) (by decide +kernel)
end
section
/-! the houses: what each kind answers; String constants (printed by wip/gen/house.py) -/
theorem d_House_weighsBy_0 : decode prog_6_method_2_code 0 = .ok (.iload_n 1, 1) := by decide +kernel
theorem d_House_weighsBy_1 : decode prog_6_method_2_code 1 = .ok (.ireturn, 1) := by decide +kernel
theorem d_House_holdsBy_0 : decode prog_6_method_3_code 0 = .ok (.iload_n 1, 1) := by decide +kernel
theorem d_House_holdsBy_1 : decode prog_6_method_3_code 1 = .ok (.ireturn, 1) := by decide +kernel
theorem d_House_isFree_0 : decode prog_6_method_4_code 0 = .ok (.iconst 1, 1) := by decide +kernel
theorem d_House_isFree_1 : decode prog_6_method_4_code 1 = .ok (.ireturn, 1) := by decide +kernel
theorem d_House_isOf_0 : decode prog_6_method_5_code 0 = .ok (.iload_n 1, 1) := by decide +kernel
theorem d_House_isOf_1 : decode prog_6_method_5_code 1 = .ok (.tableswitch 66 0 5 #[39, 41, 46, 51, 56, 61], 39) := by decide +kernel
theorem d_House_isOf_40 : decode prog_6_method_5_code 40 = .ok (.iconst 1, 1) := by decide +kernel
theorem d_House_isOf_41 : decode prog_6_method_5_code 41 = .ok (.ireturn, 1) := by decide +kernel
theorem d_House_isOf_42 : decode prog_6_method_5_code 42 = .ok (.aload_n 0, 1) := by decide +kernel
theorem d_House_isOf_43 : decode prog_6_method_5_code 43 = .ok (.instanceof 19, 3) := by decide +kernel
theorem d_House_isOf_46 : decode prog_6_method_5_code 46 = .ok (.ireturn, 1) := by decide +kernel
theorem d_House_isOf_47 : decode prog_6_method_5_code 47 = .ok (.aload_n 0, 1) := by decide +kernel
theorem d_House_isOf_48 : decode prog_6_method_5_code 48 = .ok (.instanceof 21, 3) := by decide +kernel
theorem d_House_isOf_51 : decode prog_6_method_5_code 51 = .ok (.ireturn, 1) := by decide +kernel
theorem d_House_isOf_52 : decode prog_6_method_5_code 52 = .ok (.aload_n 0, 1) := by decide +kernel
theorem d_House_isOf_53 : decode prog_6_method_5_code 53 = .ok (.instanceof 23, 3) := by decide +kernel
theorem d_House_isOf_56 : decode prog_6_method_5_code 56 = .ok (.ireturn, 1) := by decide +kernel
theorem d_House_isOf_57 : decode prog_6_method_5_code 57 = .ok (.aload_n 0, 1) := by decide +kernel
theorem d_House_isOf_58 : decode prog_6_method_5_code 58 = .ok (.instanceof 25, 3) := by decide +kernel
theorem d_House_isOf_61 : decode prog_6_method_5_code 61 = .ok (.ireturn, 1) := by decide +kernel
theorem d_House_isOf_62 : decode prog_6_method_5_code 62 = .ok (.aload_n 0, 1) := by decide +kernel
theorem d_House_isOf_63 : decode prog_6_method_5_code 63 = .ok (.instanceof 27, 3) := by decide +kernel
theorem d_House_isOf_66 : decode prog_6_method_5_code 66 = .ok (.ireturn, 1) := by decide +kernel
theorem d_House_isOf_67 : decode prog_6_method_5_code 67 = .ok (.iconst 0, 1) := by decide +kernel
theorem d_House_isOf_68 : decode prog_6_method_5_code 68 = .ok (.ireturn, 1) := by decide +kernel
theorem d_Heavy_weighsBy_0 : decode prog_5_method_2_code 0 = .ok (.aload_n 0, 1) := by decide +kernel
theorem d_Heavy_weighsBy_1 : decode prog_5_method_2_code 1 = .ok (.iload_n 1, 1) := by decide +kernel
theorem d_Heavy_weighsBy_2 : decode prog_5_method_2_code 2 = .ok (.iload_n 2, 1) := by decide +kernel
theorem d_Heavy_weighsBy_3 : decode prog_5_method_2_code 3 = .ok (.invokespecial 7, 3) := by decide +kernel
theorem d_Heavy_weighsBy_6 : decode prog_5_method_2_code 6 = .ok (.iconst 3, 1) := by decide +kernel
theorem d_Heavy_weighsBy_7 : decode prog_5_method_2_code 7 = .ok (.aload_n 0, 1) := by decide +kernel
theorem d_Heavy_weighsBy_8 : decode prog_5_method_2_code 8 = .ok (.getfield 11, 3) := by decide +kernel
theorem d_Heavy_weighsBy_11 : decode prog_5_method_2_code 11 = .ok (.imul, 1) := by decide +kernel
theorem d_Heavy_weighsBy_12 : decode prog_5_method_2_code 12 = .ok (.iadd, 1) := by decide +kernel
theorem d_Heavy_weighsBy_13 : decode prog_5_method_2_code 13 = .ok (.ireturn, 1) := by decide +kernel
theorem d_Braked_holdsBy_0 : decode prog_3_method_2_code 0 = .ok (.aload_n 0, 1) := by decide +kernel
theorem d_Braked_holdsBy_1 : decode prog_3_method_2_code 1 = .ok (.iload_n 1, 1) := by decide +kernel
theorem d_Braked_holdsBy_2 : decode prog_3_method_2_code 2 = .ok (.invokespecial 7, 3) := by decide +kernel
theorem d_Braked_holdsBy_5 : decode prog_3_method_2_code 5 = .ok (.aload_n 0, 1) := by decide +kernel
theorem d_Braked_holdsBy_6 : decode prog_3_method_2_code 6 = .ok (.getfield 11, 3) := by decide +kernel
theorem d_Braked_holdsBy_9 : decode prog_3_method_2_code 9 = .ok (.iadd, 1) := by decide +kernel
theorem d_Braked_holdsBy_10 : decode prog_3_method_2_code 10 = .ok (.ireturn, 1) := by decide +kernel
theorem d_Aunt_weighsBy_0 : decode prog_2_method_2_code 0 = .ok (.aload_n 0, 1) := by decide +kernel
theorem d_Aunt_weighsBy_1 : decode prog_2_method_2_code 1 = .ok (.iload_n 1, 1) := by decide +kernel
theorem d_Aunt_weighsBy_2 : decode prog_2_method_2_code 2 = .ok (.iload_n 2, 1) := by decide +kernel
theorem d_Aunt_weighsBy_3 : decode prog_2_method_2_code 3 = .ok (.invokespecial 7, 3) := by decide +kernel
theorem d_Aunt_weighsBy_6 : decode prog_2_method_2_code 6 = .ok (.istore_n 3, 1) := by decide +kernel
theorem d_Aunt_weighsBy_7 : decode prog_2_method_2_code 7 = .ok (.iload_n 2, 1) := by decide +kernel
theorem d_Aunt_weighsBy_8 : decode prog_2_method_2_code 8 = .ok (.iconst 5, 1) := by decide +kernel
theorem d_Aunt_weighsBy_9 : decode prog_2_method_2_code 9 = .ok (.if_icmp .ge 9, 3) := by decide +kernel
theorem d_Aunt_weighsBy_12 : decode prog_2_method_2_code 12 = .ok (.iconst 2, 1) := by decide +kernel
theorem d_Aunt_weighsBy_13 : decode prog_2_method_2_code 13 = .ok (.iload_n 3, 1) := by decide +kernel
theorem d_Aunt_weighsBy_14 : decode prog_2_method_2_code 14 = .ok (.imul, 1) := by decide +kernel
theorem d_Aunt_weighsBy_15 : decode prog_2_method_2_code 15 = .ok (.goto 4, 3) := by decide +kernel
theorem d_Aunt_weighsBy_18 : decode prog_2_method_2_code 18 = .ok (.iload_n 3, 1) := by decide +kernel
theorem d_Aunt_weighsBy_19 : decode prog_2_method_2_code 19 = .ok (.ireturn, 1) := by decide +kernel
theorem d_Stuck_isFree_0 : decode prog_11_method_2_code 0 = .ok (.iload_n 1, 1) := by decide +kernel
theorem d_Stuck_isFree_1 : decode prog_11_method_2_code 1 = .ok (.aload_n 0, 1) := by decide +kernel
theorem d_Stuck_isFree_2 : decode prog_11_method_2_code 2 = .ok (.getfield 7, 3) := by decide +kernel
theorem d_Stuck_isFree_5 : decode prog_11_method_2_code 5 = .ok (.if_icmp .eq 7, 3) := by decide +kernel
theorem d_Stuck_isFree_8 : decode prog_11_method_2_code 8 = .ok (.iconst 1, 1) := by decide +kernel
theorem d_Stuck_isFree_9 : decode prog_11_method_2_code 9 = .ok (.goto 4, 3) := by decide +kernel
theorem d_Stuck_isFree_12 : decode prog_11_method_2_code 12 = .ok (.iconst 0, 1) := by decide +kernel
theorem d_Stuck_isFree_13 : decode prog_11_method_2_code 13 = .ok (.ireturn, 1) := by decide +kernel
theorem d_Late_weighsBy_0 : decode prog_7_method_2_code 0 = .ok (.aload_n 0, 1) := by decide +kernel
theorem d_Late_weighsBy_1 : decode prog_7_method_2_code 1 = .ok (.iload_n 1, 1) := by decide +kernel
theorem d_Late_weighsBy_2 : decode prog_7_method_2_code 2 = .ok (.iload_n 2, 1) := by decide +kernel
theorem d_Late_weighsBy_3 : decode prog_7_method_2_code 3 = .ok (.invokespecial 7, 3) := by decide +kernel
theorem d_Late_weighsBy_6 : decode prog_7_method_2_code 6 = .ok (.iload_n 2, 1) := by decide +kernel
theorem d_Late_weighsBy_7 : decode prog_7_method_2_code 7 = .ok (.iadd, 1) := by decide +kernel
theorem d_Late_weighsBy_8 : decode prog_7_method_2_code 8 = .ok (.ireturn, 1) := by decide +kernel
theorem d_Late_isFree_0 : decode prog_7_method_3_code 0 = .ok (.iload_n 2, 1) := by decide +kernel
theorem d_Late_isFree_1 : decode prog_7_method_3_code 1 = .ok (.aload_n 0, 1) := by decide +kernel
theorem d_Late_isFree_2 : decode prog_7_method_3_code 2 = .ok (.getfield 11, 3) := by decide +kernel
theorem d_Late_isFree_5 : decode prog_7_method_3_code 5 = .ok (.if_icmp .lt 7, 3) := by decide +kernel
theorem d_Late_isFree_8 : decode prog_7_method_3_code 8 = .ok (.iconst 1, 1) := by decide +kernel
theorem d_Late_isFree_9 : decode prog_7_method_3_code 9 = .ok (.goto 4, 3) := by decide +kernel
theorem d_Late_isFree_12 : decode prog_7_method_3_code 12 = .ok (.iconst 0, 1) := by decide +kernel
theorem d_Late_isFree_13 : decode prog_7_method_3_code 13 = .ok (.ireturn, 1) := by decide +kernel
def kW (c : Nat) (more said high : Int32) : Int32 := if c = 3 then said + 3 * more else if c = 0 then (if high < 5 then 2 * (said + 3 * more) else said + 3 * more) else if c = 5 then said + high else said
def kH (c : Nat) (more said : Int32) : Int32 := if c = 1 ∨ c = 9 then said + more else said
def kF (c : Nat) (more high minute : Int32) : Int32 := if c = 9 then (if high = more then 0 else 1) else if c = 5 then (if minute < more then 0 else 1) else 1
def kO (c : Nat) (asked : Int32) : Int32 := if asked = 0 then 1 else if asked = 1 then (if subB c 3 then 1 else 0) else if asked = 2 then (if subB c 1 then 1 else 0) else if asked = 3 then (if subB c 0 then 1 else 0) else if asked = 4 then (if subB c 9 then 1 else 0) else if asked = 5 then (if subB c 5 then 1 else 0) else 0
def pv_weighsBy (Q : Int32 → AH → Prop) (a : Nat) (said high : Int32) (h : AH) : Prop := famA T1 h a ∧ Q (kW (rS T1 h a).1 (h.1 a 2) said high) h
def pv_holdsBy (Q : Int32 → AH → Prop) (a : Nat) (said : Int32) (h : AH) : Prop := famA T1 h a ∧ Q (kH (rS T1 h a).1 (h.1 a 2) said) h
def pv_isFree (Q : Int32 → AH → Prop) (a : Nat) (high minute : Int32) (h : AH) : Prop := famA T1 h a ∧ Q (kF (rS T1 h a).1 (h.1 a 2) high minute) h
def pv_isOf (Q : Int32 → AH → Prop) (a : Nat) (asked : Int32) (h : AH) : Prop := famA T1 h a ∧ Q (kO (rS T1 h a).1 asked) h
theorem ctsu_Heavy_7_Heavy {q : MM} (hq : q.1 = R_Heavy) : CallTo q m_House_weighsBy (.invokespecial 7) 3 (some (some R_Heavy)) := ct_SU (k := 3) (r := (R_Heavy, F_Heavy, 3)) (by rw [hq]; exact tG 593 (by decide +kernel) (by decide +kernel)) (tG 586 (by decide +kernel) (by decide +kernel)) (by rw [hq]; exact tG 479 (by decide +kernel) (by decide +kernel)) (tG 584 (by decide +kernel) (by decide +kernel)) (tG 5 (by decide +kernel) (by decide +kernel)) (tG 601 (by decide +kernel) (by decide +kernel)) (by decide) (by decide +kernel) rfl
theorem ctsu_Heavy_7_Aunt {q : MM} (hq : q.1 = R_Heavy) : CallTo q m_House_weighsBy (.invokespecial 7) 3 (some (some R_Aunt)) := ct_SU (k := 0) (r := (R_Aunt, F_Aunt, 3)) (by rw [hq]; exact tG 593 (by decide +kernel) (by decide +kernel)) (tG 586 (by decide +kernel) (by decide +kernel)) (by rw [hq]; exact tG 479 (by decide +kernel) (by decide +kernel)) (tG 584 (by decide +kernel) (by decide +kernel)) (tG 5 (by decide +kernel) (by decide +kernel)) (tG 601 (by decide +kernel) (by decide +kernel)) (by decide) (by decide +kernel) rfl
theorem ctsu_Aunt_7_Aunt {q : MM} (hq : q.1 = R_Aunt) : CallTo q m_Heavy_weighsBy (.invokespecial 7) 3 (some (some R_Aunt)) := ct_SU (k := 0) (r := (R_Aunt, F_Aunt, 3)) (by rw [hq]; exact tG 590 (by decide +kernel) (by decide +kernel)) (tG 1281 (by decide +kernel) (by decide +kernel)) (by rw [hq]; exact tG 499 (by decide +kernel) (by decide +kernel)) (tG 591 (by decide +kernel) (by decide +kernel)) (tG 15 (by decide +kernel) (by decide +kernel)) (tG 592 (by decide +kernel) (by decide +kernel)) (by decide) (by decide +kernel) rfl
theorem ctsu_Late_7_Late {q : MM} (hq : q.1 = R_Late) : CallTo q m_House_weighsBy (.invokespecial 7) 3 (some (some R_Late)) := ct_SU (k := 5) (r := (R_Late, F_Late, 3)) (by rw [hq]; exact tG 599 (by decide +kernel) (by decide +kernel)) (tG 586 (by decide +kernel) (by decide +kernel)) (by rw [hq]; exact tG 519 (by decide +kernel) (by decide +kernel)) (tG 584 (by decide +kernel) (by decide +kernel)) (tG 5 (by decide +kernel) (by decide +kernel)) (tG 601 (by decide +kernel) (by decide +kernel)) (by decide) (by decide +kernel) rfl
theorem ctsu_Braked_7_Braked {q : MM} (hq : q.1 = R_Braked) : CallTo q m_House_holdsBy (.invokespecial 7) 2 (some (some R_Braked)) := ct_SU (k := 1) (r := (R_Braked, F_Braked, 3)) (by rw [hq]; exact tG 614 (by decide +kernel) (by decide +kernel)) (tG 609 (by decide +kernel) (by decide +kernel)) (by rw [hq]; exact tG 489 (by decide +kernel) (by decide +kernel)) (tG 607 (by decide +kernel) (by decide +kernel)) (tG 5 (by decide +kernel) (by decide +kernel)) (tG 618 (by decide +kernel) (by decide +kernel)) (by decide) (by decide +kernel) rfl
theorem ctsu_Braked_7_Stuck {q : MM} (hq : q.1 = R_Braked) : CallTo q m_House_holdsBy (.invokespecial 7) 2 (some (some R_Stuck)) := ct_SU (k := 9) (r := (R_Stuck, F_Stuck, 3)) (by rw [hq]; exact tG 614 (by decide +kernel) (by decide +kernel)) (tG 609 (by decide +kernel) (by decide +kernel)) (by rw [hq]; exact tG 489 (by decide +kernel) (by decide +kernel)) (tG 607 (by decide +kernel) (by decide +kernel)) (tG 5 (by decide +kernel) (by decide +kernel)) (tG 618 (by decide +kernel) (by decide +kernel)) (by decide) (by decide +kernel) rfl
theorem ctv_Dusk_81_House {q : MM} (hq : q.1 = R_Dusk) : CallTo q m_House_isFree (.invokevirtual 81) 3 (some (some R_House)) := ct_O (owner := "UpperFloors$House") (x := ⟨"UpperFloors$House", "isFree", "(II)Z"⟩) (b0 := prog_6_method_4_code) (m0 := 3) (r0 := (some .boolean)) (by rw [hq]; exact tG 564 (by decide +kernel) (by decide +kernel)) (tG 567 (by decide +kernel) (by decide +kernel)) (tG 565 (by decide +kernel) (by decide +kernel)) (tG 566 (by decide +kernel) (by decide +kernel)) (tG 565 (by decide +kernel) (by decide +kernel)) (tG 5 (by decide +kernel) (by decide +kernel)) (tG 577 (by decide +kernel) (by decide +kernel)) (tG 577 (by decide +kernel) (by decide +kernel)) (by decide +kernel)
theorem ctv_Dusk_81_Heavy {q : MM} (hq : q.1 = R_Dusk) : CallTo q m_House_isFree (.invokevirtual 81) 3 (some (some R_Heavy)) := ct_O (owner := "UpperFloors$House") (x := ⟨"UpperFloors$House", "isFree", "(II)Z"⟩) (b0 := prog_6_method_4_code) (m0 := 3) (r0 := (some .boolean)) (by rw [hq]; exact tG 564 (by decide +kernel) (by decide +kernel)) (tG 567 (by decide +kernel) (by decide +kernel)) (tG 565 (by decide +kernel) (by decide +kernel)) (tG 570 (by decide +kernel) (by decide +kernel)) (tG 565 (by decide +kernel) (by decide +kernel)) (tG 5 (by decide +kernel) (by decide +kernel)) (tG 577 (by decide +kernel) (by decide +kernel)) (tG 577 (by decide +kernel) (by decide +kernel)) (by decide +kernel)
theorem ctv_Dusk_81_Braked {q : MM} (hq : q.1 = R_Dusk) : CallTo q m_House_isFree (.invokevirtual 81) 3 (some (some R_Braked)) := ct_O (owner := "UpperFloors$House") (x := ⟨"UpperFloors$House", "isFree", "(II)Z"⟩) (b0 := prog_6_method_4_code) (m0 := 3) (r0 := (some .boolean)) (by rw [hq]; exact tG 564 (by decide +kernel) (by decide +kernel)) (tG 567 (by decide +kernel) (by decide +kernel)) (tG 565 (by decide +kernel) (by decide +kernel)) (tG 569 (by decide +kernel) (by decide +kernel)) (tG 565 (by decide +kernel) (by decide +kernel)) (tG 5 (by decide +kernel) (by decide +kernel)) (tG 577 (by decide +kernel) (by decide +kernel)) (tG 577 (by decide +kernel) (by decide +kernel)) (by decide +kernel)
theorem ctv_Dusk_81_Aunt {q : MM} (hq : q.1 = R_Dusk) : CallTo q m_House_isFree (.invokevirtual 81) 3 (some (some R_Aunt)) := ct_O (owner := "UpperFloors$House") (x := ⟨"UpperFloors$House", "isFree", "(II)Z"⟩) (b0 := prog_6_method_4_code) (m0 := 3) (r0 := (some .boolean)) (by rw [hq]; exact tG 564 (by decide +kernel) (by decide +kernel)) (tG 567 (by decide +kernel) (by decide +kernel)) (tG 565 (by decide +kernel) (by decide +kernel)) (tG 568 (by decide +kernel) (by decide +kernel)) (tG 565 (by decide +kernel) (by decide +kernel)) (tG 5 (by decide +kernel) (by decide +kernel)) (tG 577 (by decide +kernel) (by decide +kernel)) (tG 577 (by decide +kernel) (by decide +kernel)) (by decide +kernel)
theorem ctv_Dusk_81_Stuck {q : MM} (hq : q.1 = R_Dusk) : CallTo q m_Stuck_isFree (.invokevirtual 81) 3 (some (some R_Stuck)) := ct_O (owner := "UpperFloors$House") (x := ⟨"UpperFloors$House", "isFree", "(II)Z"⟩) (b0 := prog_6_method_4_code) (m0 := 3) (r0 := (some .boolean)) (by rw [hq]; exact tG 564 (by decide +kernel) (by decide +kernel)) (tG 567 (by decide +kernel) (by decide +kernel)) (tG 565 (by decide +kernel) (by decide +kernel)) (tG 574 (by decide +kernel) (by decide +kernel)) (tG 575 (by decide +kernel) (by decide +kernel)) (tG 18 (by decide +kernel) (by decide +kernel)) (tG 576 (by decide +kernel) (by decide +kernel)) (tG 577 (by decide +kernel) (by decide +kernel)) (by decide +kernel)
theorem ctv_Dusk_81_Late {q : MM} (hq : q.1 = R_Dusk) : CallTo q m_Late_isFree (.invokevirtual 81) 3 (some (some R_Late)) := ct_O (owner := "UpperFloors$House") (x := ⟨"UpperFloors$House", "isFree", "(II)Z"⟩) (b0 := prog_6_method_4_code) (m0 := 3) (r0 := (some .boolean)) (by rw [hq]; exact tG 564 (by decide +kernel) (by decide +kernel)) (tG 567 (by decide +kernel) (by decide +kernel)) (tG 565 (by decide +kernel) (by decide +kernel)) (tG 571 (by decide +kernel) (by decide +kernel)) (tG 572 (by decide +kernel) (by decide +kernel)) (tG 19 (by decide +kernel) (by decide +kernel)) (tG 573 (by decide +kernel) (by decide +kernel)) (tG 577 (by decide +kernel) (by decide +kernel)) (by decide +kernel)
theorem ctv_Dusk_109_House {q : MM} (hq : q.1 = R_Dusk) : CallTo q m_House_weighsBy (.invokevirtual 109) 3 (some (some R_House)) := ct_O (owner := "UpperFloors$House") (x := ⟨"UpperFloors$House", "weighsBy", "(II)I"⟩) (b0 := prog_6_method_2_code) (m0 := 3) (r0 := (some .int)) (by rw [hq]; exact tG 583 (by decide +kernel) (by decide +kernel)) (tG 586 (by decide +kernel) (by decide +kernel)) (tG 584 (by decide +kernel) (by decide +kernel)) (tG 585 (by decide +kernel) (by decide +kernel)) (tG 584 (by decide +kernel) (by decide +kernel)) (tG 5 (by decide +kernel) (by decide +kernel)) (tG 601 (by decide +kernel) (by decide +kernel)) (tG 601 (by decide +kernel) (by decide +kernel)) (by decide +kernel)
theorem ctv_Dusk_109_Heavy {q : MM} (hq : q.1 = R_Dusk) : CallTo q m_Heavy_weighsBy (.invokevirtual 109) 3 (some (some R_Heavy)) := ct_O (owner := "UpperFloors$House") (x := ⟨"UpperFloors$House", "weighsBy", "(II)I"⟩) (b0 := prog_6_method_2_code) (m0 := 3) (r0 := (some .int)) (by rw [hq]; exact tG 583 (by decide +kernel) (by decide +kernel)) (tG 586 (by decide +kernel) (by decide +kernel)) (tG 584 (by decide +kernel) (by decide +kernel)) (tG 595 (by decide +kernel) (by decide +kernel)) (tG 591 (by decide +kernel) (by decide +kernel)) (tG 15 (by decide +kernel) (by decide +kernel)) (tG 592 (by decide +kernel) (by decide +kernel)) (tG 601 (by decide +kernel) (by decide +kernel)) (by decide +kernel)
theorem ctv_Dusk_109_Braked {q : MM} (hq : q.1 = R_Dusk) : CallTo q m_House_weighsBy (.invokevirtual 109) 3 (some (some R_Braked)) := ct_O (owner := "UpperFloors$House") (x := ⟨"UpperFloors$House", "weighsBy", "(II)I"⟩) (b0 := prog_6_method_2_code) (m0 := 3) (r0 := (some .int)) (by rw [hq]; exact tG 583 (by decide +kernel) (by decide +kernel)) (tG 586 (by decide +kernel) (by decide +kernel)) (tG 584 (by decide +kernel) (by decide +kernel)) (tG 594 (by decide +kernel) (by decide +kernel)) (tG 584 (by decide +kernel) (by decide +kernel)) (tG 5 (by decide +kernel) (by decide +kernel)) (tG 601 (by decide +kernel) (by decide +kernel)) (tG 601 (by decide +kernel) (by decide +kernel)) (by decide +kernel)
theorem ctv_Dusk_109_Aunt {q : MM} (hq : q.1 = R_Dusk) : CallTo q m_Aunt_weighsBy (.invokevirtual 109) 3 (some (some R_Aunt)) := ct_O (owner := "UpperFloors$House") (x := ⟨"UpperFloors$House", "weighsBy", "(II)I"⟩) (b0 := prog_6_method_2_code) (m0 := 3) (r0 := (some .int)) (by rw [hq]; exact tG 583 (by decide +kernel) (by decide +kernel)) (tG 586 (by decide +kernel) (by decide +kernel)) (tG 584 (by decide +kernel) (by decide +kernel)) (tG 587 (by decide +kernel) (by decide +kernel)) (tG 588 (by decide +kernel) (by decide +kernel)) (tG 17 (by decide +kernel) (by decide +kernel)) (tG 589 (by decide +kernel) (by decide +kernel)) (tG 601 (by decide +kernel) (by decide +kernel)) (by decide +kernel)
theorem ctv_Dusk_109_Stuck {q : MM} (hq : q.1 = R_Dusk) : CallTo q m_House_weighsBy (.invokevirtual 109) 3 (some (some R_Stuck)) := ct_O (owner := "UpperFloors$House") (x := ⟨"UpperFloors$House", "weighsBy", "(II)I"⟩) (b0 := prog_6_method_2_code) (m0 := 3) (r0 := (some .int)) (by rw [hq]; exact tG 583 (by decide +kernel) (by decide +kernel)) (tG 586 (by decide +kernel) (by decide +kernel)) (tG 584 (by decide +kernel) (by decide +kernel)) (tG 600 (by decide +kernel) (by decide +kernel)) (tG 584 (by decide +kernel) (by decide +kernel)) (tG 5 (by decide +kernel) (by decide +kernel)) (tG 601 (by decide +kernel) (by decide +kernel)) (tG 601 (by decide +kernel) (by decide +kernel)) (by decide +kernel)
theorem ctv_Dusk_109_Late {q : MM} (hq : q.1 = R_Dusk) : CallTo q m_Late_weighsBy (.invokevirtual 109) 3 (some (some R_Late)) := ct_O (owner := "UpperFloors$House") (x := ⟨"UpperFloors$House", "weighsBy", "(II)I"⟩) (b0 := prog_6_method_2_code) (m0 := 3) (r0 := (some .int)) (by rw [hq]; exact tG 583 (by decide +kernel) (by decide +kernel)) (tG 586 (by decide +kernel) (by decide +kernel)) (tG 584 (by decide +kernel) (by decide +kernel)) (tG 596 (by decide +kernel) (by decide +kernel)) (tG 597 (by decide +kernel) (by decide +kernel)) (tG 19 (by decide +kernel) (by decide +kernel)) (tG 598 (by decide +kernel) (by decide +kernel)) (tG 601 (by decide +kernel) (by decide +kernel)) (by decide +kernel)
theorem ctv_Dusk_112_House {q : MM} (hq : q.1 = R_Dusk) : CallTo q m_House_holdsBy (.invokevirtual 112) 2 (some (some R_House)) := ct_O (owner := "UpperFloors$House") (x := ⟨"UpperFloors$House", "holdsBy", "(I)I"⟩) (b0 := prog_6_method_3_code) (m0 := 2) (r0 := (some .int)) (by rw [hq]; exact tG 606 (by decide +kernel) (by decide +kernel)) (tG 609 (by decide +kernel) (by decide +kernel)) (tG 607 (by decide +kernel) (by decide +kernel)) (tG 608 (by decide +kernel) (by decide +kernel)) (tG 607 (by decide +kernel) (by decide +kernel)) (tG 5 (by decide +kernel) (by decide +kernel)) (tG 618 (by decide +kernel) (by decide +kernel)) (tG 618 (by decide +kernel) (by decide +kernel)) (by decide +kernel)
theorem ctv_Dusk_112_Heavy {q : MM} (hq : q.1 = R_Dusk) : CallTo q m_House_holdsBy (.invokevirtual 112) 2 (some (some R_Heavy)) := ct_O (owner := "UpperFloors$House") (x := ⟨"UpperFloors$House", "holdsBy", "(I)I"⟩) (b0 := prog_6_method_3_code) (m0 := 2) (r0 := (some .int)) (by rw [hq]; exact tG 606 (by decide +kernel) (by decide +kernel)) (tG 609 (by decide +kernel) (by decide +kernel)) (tG 607 (by decide +kernel) (by decide +kernel)) (tG 615 (by decide +kernel) (by decide +kernel)) (tG 607 (by decide +kernel) (by decide +kernel)) (tG 5 (by decide +kernel) (by decide +kernel)) (tG 618 (by decide +kernel) (by decide +kernel)) (tG 618 (by decide +kernel) (by decide +kernel)) (by decide +kernel)
theorem ctv_Dusk_112_Braked {q : MM} (hq : q.1 = R_Dusk) : CallTo q m_Braked_holdsBy (.invokevirtual 112) 2 (some (some R_Braked)) := ct_O (owner := "UpperFloors$House") (x := ⟨"UpperFloors$House", "holdsBy", "(I)I"⟩) (b0 := prog_6_method_3_code) (m0 := 2) (r0 := (some .int)) (by rw [hq]; exact tG 606 (by decide +kernel) (by decide +kernel)) (tG 609 (by decide +kernel) (by decide +kernel)) (tG 607 (by decide +kernel) (by decide +kernel)) (tG 611 (by decide +kernel) (by decide +kernel)) (tG 612 (by decide +kernel) (by decide +kernel)) (tG 16 (by decide +kernel) (by decide +kernel)) (tG 613 (by decide +kernel) (by decide +kernel)) (tG 618 (by decide +kernel) (by decide +kernel)) (by decide +kernel)
theorem ctv_Dusk_112_Aunt {q : MM} (hq : q.1 = R_Dusk) : CallTo q m_House_holdsBy (.invokevirtual 112) 2 (some (some R_Aunt)) := ct_O (owner := "UpperFloors$House") (x := ⟨"UpperFloors$House", "holdsBy", "(I)I"⟩) (b0 := prog_6_method_3_code) (m0 := 2) (r0 := (some .int)) (by rw [hq]; exact tG 606 (by decide +kernel) (by decide +kernel)) (tG 609 (by decide +kernel) (by decide +kernel)) (tG 607 (by decide +kernel) (by decide +kernel)) (tG 610 (by decide +kernel) (by decide +kernel)) (tG 607 (by decide +kernel) (by decide +kernel)) (tG 5 (by decide +kernel) (by decide +kernel)) (tG 618 (by decide +kernel) (by decide +kernel)) (tG 618 (by decide +kernel) (by decide +kernel)) (by decide +kernel)
theorem ctv_Dusk_112_Stuck {q : MM} (hq : q.1 = R_Dusk) : CallTo q m_Braked_holdsBy (.invokevirtual 112) 2 (some (some R_Stuck)) := ct_O (owner := "UpperFloors$House") (x := ⟨"UpperFloors$House", "holdsBy", "(I)I"⟩) (b0 := prog_6_method_3_code) (m0 := 2) (r0 := (some .int)) (by rw [hq]; exact tG 606 (by decide +kernel) (by decide +kernel)) (tG 609 (by decide +kernel) (by decide +kernel)) (tG 607 (by decide +kernel) (by decide +kernel)) (tG 617 (by decide +kernel) (by decide +kernel)) (tG 612 (by decide +kernel) (by decide +kernel)) (tG 16 (by decide +kernel) (by decide +kernel)) (tG 613 (by decide +kernel) (by decide +kernel)) (tG 618 (by decide +kernel) (by decide +kernel)) (by decide +kernel)
theorem ctv_Dusk_112_Late {q : MM} (hq : q.1 = R_Dusk) : CallTo q m_House_holdsBy (.invokevirtual 112) 2 (some (some R_Late)) := ct_O (owner := "UpperFloors$House") (x := ⟨"UpperFloors$House", "holdsBy", "(I)I"⟩) (b0 := prog_6_method_3_code) (m0 := 2) (r0 := (some .int)) (by rw [hq]; exact tG 606 (by decide +kernel) (by decide +kernel)) (tG 609 (by decide +kernel) (by decide +kernel)) (tG 607 (by decide +kernel) (by decide +kernel)) (tG 616 (by decide +kernel) (by decide +kernel)) (tG 607 (by decide +kernel) (by decide +kernel)) (tG 5 (by decide +kernel) (by decide +kernel)) (tG 618 (by decide +kernel) (by decide +kernel)) (tG 618 (by decide +kernel) (by decide +kernel)) (by decide +kernel)
theorem ctv_UF_252_House {q : MM} (hq : q.1 = R_UF) : CallTo q m_House_isOf (.invokevirtual 252) 2 (some (some R_House)) := ct_O (owner := "UpperFloors$House") (x := ⟨"UpperFloors$House", "isOf", "(I)Z"⟩) (b0 := prog_6_method_5_code) (m0 := 2) (r0 := (some .boolean)) (by rw [hq]; exact tG 815 (by decide +kernel) (by decide +kernel)) (tG 818 (by decide +kernel) (by decide +kernel)) (tG 816 (by decide +kernel) (by decide +kernel)) (tG 817 (by decide +kernel) (by decide +kernel)) (tG 816 (by decide +kernel) (by decide +kernel)) (tG 5 (by decide +kernel) (by decide +kernel)) (tG 824 (by decide +kernel) (by decide +kernel)) (tG 824 (by decide +kernel) (by decide +kernel)) (by decide +kernel)
theorem ctv_UF_252_Heavy {q : MM} (hq : q.1 = R_UF) : CallTo q m_House_isOf (.invokevirtual 252) 2 (some (some R_Heavy)) := ct_O (owner := "UpperFloors$House") (x := ⟨"UpperFloors$House", "isOf", "(I)Z"⟩) (b0 := prog_6_method_5_code) (m0 := 2) (r0 := (some .boolean)) (by rw [hq]; exact tG 815 (by decide +kernel) (by decide +kernel)) (tG 818 (by decide +kernel) (by decide +kernel)) (tG 816 (by decide +kernel) (by decide +kernel)) (tG 821 (by decide +kernel) (by decide +kernel)) (tG 816 (by decide +kernel) (by decide +kernel)) (tG 5 (by decide +kernel) (by decide +kernel)) (tG 824 (by decide +kernel) (by decide +kernel)) (tG 824 (by decide +kernel) (by decide +kernel)) (by decide +kernel)
theorem ctv_UF_252_Braked {q : MM} (hq : q.1 = R_UF) : CallTo q m_House_isOf (.invokevirtual 252) 2 (some (some R_Braked)) := ct_O (owner := "UpperFloors$House") (x := ⟨"UpperFloors$House", "isOf", "(I)Z"⟩) (b0 := prog_6_method_5_code) (m0 := 2) (r0 := (some .boolean)) (by rw [hq]; exact tG 815 (by decide +kernel) (by decide +kernel)) (tG 818 (by decide +kernel) (by decide +kernel)) (tG 816 (by decide +kernel) (by decide +kernel)) (tG 820 (by decide +kernel) (by decide +kernel)) (tG 816 (by decide +kernel) (by decide +kernel)) (tG 5 (by decide +kernel) (by decide +kernel)) (tG 824 (by decide +kernel) (by decide +kernel)) (tG 824 (by decide +kernel) (by decide +kernel)) (by decide +kernel)
theorem ctv_UF_252_Aunt {q : MM} (hq : q.1 = R_UF) : CallTo q m_House_isOf (.invokevirtual 252) 2 (some (some R_Aunt)) := ct_O (owner := "UpperFloors$House") (x := ⟨"UpperFloors$House", "isOf", "(I)Z"⟩) (b0 := prog_6_method_5_code) (m0 := 2) (r0 := (some .boolean)) (by rw [hq]; exact tG 815 (by decide +kernel) (by decide +kernel)) (tG 818 (by decide +kernel) (by decide +kernel)) (tG 816 (by decide +kernel) (by decide +kernel)) (tG 819 (by decide +kernel) (by decide +kernel)) (tG 816 (by decide +kernel) (by decide +kernel)) (tG 5 (by decide +kernel) (by decide +kernel)) (tG 824 (by decide +kernel) (by decide +kernel)) (tG 824 (by decide +kernel) (by decide +kernel)) (by decide +kernel)
theorem ctv_UF_252_Stuck {q : MM} (hq : q.1 = R_UF) : CallTo q m_House_isOf (.invokevirtual 252) 2 (some (some R_Stuck)) := ct_O (owner := "UpperFloors$House") (x := ⟨"UpperFloors$House", "isOf", "(I)Z"⟩) (b0 := prog_6_method_5_code) (m0 := 2) (r0 := (some .boolean)) (by rw [hq]; exact tG 815 (by decide +kernel) (by decide +kernel)) (tG 818 (by decide +kernel) (by decide +kernel)) (tG 816 (by decide +kernel) (by decide +kernel)) (tG 823 (by decide +kernel) (by decide +kernel)) (tG 816 (by decide +kernel) (by decide +kernel)) (tG 5 (by decide +kernel) (by decide +kernel)) (tG 824 (by decide +kernel) (by decide +kernel)) (tG 824 (by decide +kernel) (by decide +kernel)) (by decide +kernel)
theorem ctv_UF_252_Late {q : MM} (hq : q.1 = R_UF) : CallTo q m_House_isOf (.invokevirtual 252) 2 (some (some R_Late)) := ct_O (owner := "UpperFloors$House") (x := ⟨"UpperFloors$House", "isOf", "(I)Z"⟩) (b0 := prog_6_method_5_code) (m0 := 2) (r0 := (some .boolean)) (by rw [hq]; exact tG 815 (by decide +kernel) (by decide +kernel)) (tG 818 (by decide +kernel) (by decide +kernel)) (tG 816 (by decide +kernel) (by decide +kernel)) (tG 822 (by decide +kernel) (by decide +kernel)) (tG 816 (by decide +kernel) (by decide +kernel)) (tG 5 (by decide +kernel) (by decide +kernel)) (tG 824 (by decide +kernel) (by decide +kernel)) (tG 824 (by decide +kernel) (by decide +kernel)) (by decide +kernel)
section HOUSE
variable {G : GG} {d : Nat} {h : AH} {Q : Int32 → AH → Prop} {a : Nat} {said high minute asked : Int32}
theorem w_House_weighsBy (H : Q said h) : WP G T1 m_House_weighsBy d [.ref a, .int said, .int high] h 0 0 (iQ Q) := by
  refine WP.enter 0 (by decide) rfl rfl ?_
  refine A_iload_n d_House_weighsBy_0 rfl ?_
  exact A_iret d_House_weighsBy_1 rfl rfl H
theorem w_House_holdsBy (H : Q said h) : WP G T1 m_House_holdsBy d [.ref a, .int said] h 0 0 (iQ Q) := by
  refine WP.enter 0 (by decide) rfl rfl ?_
  refine A_iload_n d_House_holdsBy_0 rfl ?_
  exact A_iret d_House_holdsBy_1 rfl rfl H
theorem w_House_isFree (H : Q 1 h) : WP G T1 m_House_isFree d [.ref a, .int high, .int minute] h 0 0 (iQ Q) := by
  refine WP.enter 0 (by decide) rfl rfl ?_
  refine A_iconst 1 (by decide) d_House_isFree_0 ?_
  exact A_iret d_House_isFree_1 rfl rfl H
theorem w_Stuck_isFree (ha : vA T1 h a) (hs : (rS T1 h a).1 = 9) (H : Q (kF 9 (h.1 a 2) high minute) h) : WP G T1 m_Stuck_isFree d [.ref a, .int high, .int minute] h 0 0 (iQ Q) := by
  refine WP.enter 0 (by decide) rfl rfl ?_
  refine A_iload_n d_Stuck_isFree_0 rfl ?_
  refine A_aload_n d_Stuck_isFree_1 rfl ?_
  refine A_get (v := .int (h.1 a 2)) d_Stuck_isFree_2 (fo_Stuck_7_9 rfl) ha hs rfl ?_
  refine A_icmp_eq 12 d_Stuck_isFree_5 (by decide) (fun z => ?_) (fun z => ?_)
  · refine A_iconst 0 (by decide) d_Stuck_isFree_12 ?_
    refine A_iret d_Stuck_isFree_13 rfl rfl ?_
    have e : kF 9 (h.1 a 2) high minute = 0 := by simp [kF, z]
    rw [e] at H
    exact H
  · refine A_iconst 1 (by decide) d_Stuck_isFree_8 ?_
    refine A_goto 13 d_Stuck_isFree_9 (by decide) ?_
    refine A_iret d_Stuck_isFree_13 rfl rfl ?_
    have e : kF 9 (h.1 a 2) high minute = 1 := by simp [kF, z]
    rw [e] at H
    exact H
theorem w_Late_isFree (ha : vA T1 h a) (hs : (rS T1 h a).1 = 5) (H : Q (kF 5 (h.1 a 2) high minute) h) : WP G T1 m_Late_isFree d [.ref a, .int high, .int minute] h 0 0 (iQ Q) := by
  refine WP.enter 0 (by decide) rfl rfl ?_
  refine A_iload_n d_Late_isFree_0 rfl ?_
  refine A_aload_n d_Late_isFree_1 rfl ?_
  refine A_get (v := .int (h.1 a 2)) d_Late_isFree_2 (fo_Late_11_5 rfl) ha hs rfl ?_
  refine A_icmp_lt 12 d_Late_isFree_5 (by decide) (fun z => ?_) (fun z => ?_)
  · refine A_iconst 0 (by decide) d_Late_isFree_12 ?_
    refine A_iret d_Late_isFree_13 rfl rfl ?_
    have e : kF 5 (h.1 a 2) high minute = 0 := by simp [kF, z]
    rw [e] at H
    exact H
  · refine A_iconst 1 (by decide) d_Late_isFree_8 ?_
    refine A_goto 13 d_Late_isFree_9 (by decide) ?_
    refine A_iret d_Late_isFree_13 rfl rfl ?_
    have e : kF 5 (h.1 a 2) high minute = 1 := by simp [kF, z]
    rw [e] at H
    exact H
theorem w_Heavy_weighsBy {c : Nat} {C : String} {F : u_T} (ct : CallTo m_Heavy_weighsBy m_House_weighsBy (.invokespecial 7) 3 (some (some C))) (hcl : clL[c]? = some (C, F, 3)) (hc : c < 100) (hf : FOK R_Heavy 11 c 2) (h0 : fty c 2 = 0) (ha : vA T1 h a) (hs : (rS T1 h a).1 = c) (H : Q (said + 3 * h.1 a 2) h) : WP G T1 m_Heavy_weighsBy (d + 1) [.ref a, .int said, .int high] h 0 0 (iQ Q) := by
  refine WP.enter 0 (by decide) rfl rfl ?_
  refine A_aload_n d_Heavy_weighsBy_0 rfl ?_
  refine A_iload_n d_Heavy_weighsBy_1 rfl ?_
  refine A_iload_n d_Heavy_weighsBy_2 rfl ?_
  refine A_cI [.ref a, .int said, .int high] [] ct d_Heavy_weighsBy_3 rfl rfl (by decide) (by decide) (rcA_o rfl ha hs hc hcl) (w_House_weighsBy (Q := fun r h' => r = said ∧ h' = h) ⟨rfl, rfl⟩) (fun r h' z => ?_)
  obtain ⟨rfl, rfl⟩ := z
  refine A_iconst 3 (by decide) d_Heavy_weighsBy_6 ?_
  refine A_aload_n d_Heavy_weighsBy_7 rfl ?_
  refine A_get (v := .int (h'.1 a 2)) d_Heavy_weighsBy_8 hf ha hs (by rw [h0]; rfl) ?_
  refine A_imul d_Heavy_weighsBy_11 ?_
  refine A_iadd d_Heavy_weighsBy_12 ?_
  exact A_iret d_Heavy_weighsBy_13 rfl rfl H
theorem w_Aunt_weighsBy (ha : vA T1 h a) (hs : (rS T1 h a).1 = 0) (H : Q (kW 0 (h.1 a 2) said high) h) : WP G T1 m_Aunt_weighsBy (d + 2) [.ref a, .int said, .int high] h 0 0 (iQ Q) := by
  refine WP.enter 1 (by decide) rfl rfl ?_
  refine A_aload_n d_Aunt_weighsBy_0 rfl ?_
  refine A_iload_n d_Aunt_weighsBy_1 rfl ?_
  refine A_iload_n d_Aunt_weighsBy_2 rfl ?_
  refine A_cI [.ref a, .int said, .int high] [] (ctsu_Aunt_7_Aunt rfl) d_Aunt_weighsBy_3 rfl rfl (by decide) (by decide) (rcA_o rfl ha hs (by decide) rfl) (w_Heavy_weighsBy (Q := fun r h' => r = said + 3 * h.1 a 2 ∧ h' = h) (ctsu_Heavy_7_Aunt rfl) rfl (by decide) (fo_Heavy_11_0 rfl) rfl ha hs ⟨rfl, rfl⟩) (fun r h' z => ?_)
  obtain ⟨er, eh⟩ := z
  subst eh
  refine A_istore_n [some (.ref a), some (.int said), some (.int high), some (.int r)] d_Aunt_weighsBy_6 (by decide) rfl rfl ?_
  refine A_iload_n d_Aunt_weighsBy_7 rfl ?_
  refine A_iconst 5 (by decide) d_Aunt_weighsBy_8 ?_
  refine A_icmp_ge 18 d_Aunt_weighsBy_9 (by decide) (fun z => ?_) (fun z => ?_)
  · refine A_iload_n d_Aunt_weighsBy_18 rfl ?_
    refine A_iret d_Aunt_weighsBy_19 rfl rfl ?_
    have e : kW 0 (h'.1 a 2) said high = r := by
      have : ¬ high < 5 := Int32.not_lt.mpr z
      simp [kW, this, er]
    rw [e] at H
    exact H
  · refine A_iconst 2 (by decide) d_Aunt_weighsBy_12 ?_
    refine A_iload_n d_Aunt_weighsBy_13 rfl ?_
    refine A_imul d_Aunt_weighsBy_14 ?_
    refine A_goto 19 d_Aunt_weighsBy_15 (by decide) ?_
    refine A_iret d_Aunt_weighsBy_19 rfl rfl ?_
    have e : kW 0 (h'.1 a 2) said high = 2 * r := by
      have : high < 5 := Int32.not_le.mp z
      simp [kW, this, er]
    rw [e] at H
    exact H
theorem w_Late_weighsBy (ha : vA T1 h a) (hs : (rS T1 h a).1 = 5) (H : Q (said + high) h) : WP G T1 m_Late_weighsBy (d + 1) [.ref a, .int said, .int high] h 0 0 (iQ Q) := by
  refine WP.enter 0 (by decide) rfl rfl ?_
  refine A_aload_n d_Late_weighsBy_0 rfl ?_
  refine A_iload_n d_Late_weighsBy_1 rfl ?_
  refine A_iload_n d_Late_weighsBy_2 rfl ?_
  refine A_cI [.ref a, .int said, .int high] [] (ctsu_Late_7_Late rfl) d_Late_weighsBy_3 rfl rfl (by decide) (by decide) (rcA_o rfl ha hs (by decide) rfl) (w_House_weighsBy (Q := fun r h' => r = said ∧ h' = h) ⟨rfl, rfl⟩) (fun r h' z => ?_)
  obtain ⟨rfl, rfl⟩ := z
  refine A_iload_n d_Late_weighsBy_6 rfl ?_
  refine A_iadd d_Late_weighsBy_7 ?_
  exact A_iret d_Late_weighsBy_8 rfl rfl H
theorem w_Braked_holdsBy {c : Nat} {C : String} {F : u_T} (ct : CallTo m_Braked_holdsBy m_House_holdsBy (.invokespecial 7) 2 (some (some C))) (hcl : clL[c]? = some (C, F, 3)) (hc : c < 100) (hf : FOK R_Braked 11 c 2) (h0 : fty c 2 = 0) (ha : vA T1 h a) (hs : (rS T1 h a).1 = c) (H : Q (said + h.1 a 2) h) : WP G T1 m_Braked_holdsBy (d + 1) [.ref a, .int said] h 0 0 (iQ Q) := by
  refine WP.enter 0 (by decide) rfl rfl ?_
  refine A_aload_n d_Braked_holdsBy_0 rfl ?_
  refine A_iload_n d_Braked_holdsBy_1 rfl ?_
  refine A_cI [.ref a, .int said] [] ct d_Braked_holdsBy_2 rfl rfl (by decide) (by decide) (rcA_o rfl ha hs hc hcl) (w_House_holdsBy (Q := fun r h' => r = said ∧ h' = h) ⟨rfl, rfl⟩) (fun r h' z => ?_)
  obtain ⟨rfl, rfl⟩ := z
  refine A_aload_n d_Braked_holdsBy_5 rfl ?_
  refine A_get (v := .int (h'.1 a 2)) d_Braked_holdsBy_6 hf ha hs (by rw [h0]; rfl) ?_
  refine A_iadd d_Braked_holdsBy_9 ?_
  exact A_iret d_Braked_holdsBy_10 rfl rfl H
theorem w_isOf {c : Nat} (hc : famP c) (ha : vA T1 h a) (hs : (rS T1 h a).1 = c) (H : Q (kO c asked) h) : WP G T1 m_House_isOf d [.ref a, .int asked] h 0 0 (iQ Q) := by
  have ok : ∀ t, (t = 3 ∨ t = 1 ∨ t = 0 ∨ t = 9 ∨ t = 5) → instOK c t := by
    intro t ht
    rcases hc with rfl | rfl | rfl | rfl | rfl | rfl <;> rcases ht with rfl | rfl | rfl | rfl | rfl <;> exact ⟨_, _, _, _, _, _, rfl, by decide, rfl, by decide +kernel⟩
  have nr : ∀ b : Bool, narrow .boolean (.int (if b then 1 else 0)) = .int (if b then 1 else 0) := by intro b; cases b <;> rfl
  refine WP.enter 0 (by decide) rfl rfl ?_
  refine A_iload_n d_House_isOf_0 rfl ?_
  by_cases z0 : asked = 0
  · refine A_tsI 40 d_House_isOf_1 (by rw [z0]; decide) (by rw [z0]; decide) (by rw [z0]; rfl) (by decide) ?_
    refine A_iconst 1 (by decide) d_House_isOf_40 ?_
    refine A_iret d_House_isOf_41 rfl rfl ?_
    rw [show kO c asked = 1 by simp [kO, z0]] at H
    exact H
  by_cases z1 : asked = 1
  · refine A_tsI 42 d_House_isOf_1 (by rw [z1]; decide) (by rw [z1]; decide) (by rw [z1]; rfl) (by decide) ?_
    refine A_aload_n d_House_isOf_42 rfl ?_
    refine A_inst (t := 3) d_House_isOf_43 rfl (tG 825 (by decide +kernel) (by decide +kernel)) ha hs (ok _ (by decide)) ?_
    refine A_iret d_House_isOf_46 rfl (nr _) ?_
    rw [show kO c asked = (if subB c 3 then 1 else 0) by simp [kO, z1]] at H
    exact H
  by_cases z2 : asked = 2
  · refine A_tsI 47 d_House_isOf_1 (by rw [z2]; decide) (by rw [z2]; decide) (by rw [z2]; rfl) (by decide) ?_
    refine A_aload_n d_House_isOf_47 rfl ?_
    refine A_inst (t := 1) d_House_isOf_48 rfl (tG 826 (by decide +kernel) (by decide +kernel)) ha hs (ok _ (by decide)) ?_
    refine A_iret d_House_isOf_51 rfl (nr _) ?_
    rw [show kO c asked = (if subB c 1 then 1 else 0) by simp [kO, z2]] at H
    exact H
  by_cases z3 : asked = 3
  · refine A_tsI 52 d_House_isOf_1 (by rw [z3]; decide) (by rw [z3]; decide) (by rw [z3]; rfl) (by decide) ?_
    refine A_aload_n d_House_isOf_52 rfl ?_
    refine A_inst (t := 0) d_House_isOf_53 rfl (tG 827 (by decide +kernel) (by decide +kernel)) ha hs (ok _ (by decide)) ?_
    refine A_iret d_House_isOf_56 rfl (nr _) ?_
    rw [show kO c asked = (if subB c 0 then 1 else 0) by simp [kO, z3]] at H
    exact H
  by_cases z4 : asked = 4
  · refine A_tsI 57 d_House_isOf_1 (by rw [z4]; decide) (by rw [z4]; decide) (by rw [z4]; rfl) (by decide) ?_
    refine A_aload_n d_House_isOf_57 rfl ?_
    refine A_inst (t := 9) d_House_isOf_58 rfl (tG 828 (by decide +kernel) (by decide +kernel)) ha hs (ok _ (by decide)) ?_
    refine A_iret d_House_isOf_61 rfl (nr _) ?_
    rw [show kO c asked = (if subB c 9 then 1 else 0) by simp [kO, z4]] at H
    exact H
  by_cases z5 : asked = 5
  · refine A_tsI 62 d_House_isOf_1 (by rw [z5]; decide) (by rw [z5]; decide) (by rw [z5]; rfl) (by decide) ?_
    refine A_aload_n d_House_isOf_62 rfl ?_
    refine A_inst (t := 5) d_House_isOf_63 rfl (tG 829 (by decide +kernel) (by decide +kernel)) ha hs (ok _ (by decide)) ?_
    refine A_iret d_House_isOf_66 rfl (nr _) ?_
    rw [show kO c asked = (if subB c 5 then 1 else 0) by simp [kO, z5]] at H
    exact H
  refine A_tsO 67 d_House_isOf_1 (by have t0 := lv_neT z0 (a := 0) (by decide); have t1 := lv_neT z1 (a := 1) (by decide); have t2 := lv_neT z2 (a := 2) (by decide); have t3 := lv_neT z3 (a := 3) (by decide); have t4 := lv_neT z4 (a := 4) (by decide); have t5 := lv_neT z5 (a := 5) (by decide); omega) (by decide) ?_
  refine A_iconst 0 (by decide) d_House_isOf_67 ?_
  refine A_iret d_House_isOf_68 rfl rfl ?_
  rw [show kO c asked = 0 by simp [kO, z0, z1, z2, z3, z4, z5]] at H
  exact H
end HOUSE
theorem A_pv_isFree {G : GG} {q : MM} {d pc : Nat} {L : LL} {rest : List Value} {h : AH} {bc bs : Nat} {Q : QQ} {Qc : Int32 → AH → Prop} {a : Nat} {high minute : Int32} (hd : decode q.2.2.1 pc = .ok (.invokevirtual 81, 3)) (H : pv_isFree Qc a high minute h) (kk : ∀ r h', Qc r h' → Att G T1 q (d + 3) (pc + 3) L (.int r :: rest) h' bc bs Q) (hq : q.1 = R_Dusk := by rfl) (hsum : (rest.map fun v => v.category).sum ≤ 8 := by decide) : Att G T1 q (d + 3) pc L (.int minute :: .int high :: .ref a :: rest) h bc bs Q := by
  obtain ⟨⟨ha, hc⟩, H⟩ := H
  rcases hc with e | e | e | e | e | e
  · rw [e] at H
    exact A_cI (d := d + 2) [.ref a, .int high, .int minute] rest (ctv_Dusk_81_Aunt hq) hd rfl rfl (by decide) hsum (rcA_o rfl ha e (by decide) rfl) (w_House_isFree (d := d + 2) (by simpa [kW, kH, kF] using H)) kk
  · rw [e] at H
    exact A_cI (d := d + 2) [.ref a, .int high, .int minute] rest (ctv_Dusk_81_Braked hq) hd rfl rfl (by decide) hsum (rcA_o rfl ha e (by decide) rfl) (w_House_isFree (d := d + 2) (by simpa [kW, kH, kF] using H)) kk
  · rw [e] at H
    exact A_cI (d := d + 2) [.ref a, .int high, .int minute] rest (ctv_Dusk_81_Heavy hq) hd rfl rfl (by decide) hsum (rcA_o rfl ha e (by decide) rfl) (w_House_isFree (d := d + 2) (by simpa [kW, kH, kF] using H)) kk
  · rw [e] at H
    exact A_cI (d := d + 2) [.ref a, .int high, .int minute] rest (ctv_Dusk_81_House hq) hd rfl rfl (by decide) hsum (rcA_o rfl ha e (by decide) rfl) (w_House_isFree (d := d + 2) (by simpa [kW, kH, kF] using H)) kk
  · rw [e] at H
    exact A_cI (d := d + 2) [.ref a, .int high, .int minute] rest (ctv_Dusk_81_Late hq) hd rfl rfl (by decide) hsum (rcA_o rfl ha e (by decide) rfl) (w_Late_isFree (d := d + 2) ha e H) kk
  · rw [e] at H
    exact A_cI (d := d + 2) [.ref a, .int high, .int minute] rest (ctv_Dusk_81_Stuck hq) hd rfl rfl (by decide) hsum (rcA_o rfl ha e (by decide) rfl) (w_Stuck_isFree (d := d + 2) ha e H) kk
theorem A_pv_weighsBy {G : GG} {q : MM} {d pc : Nat} {L : LL} {rest : List Value} {h : AH} {bc bs : Nat} {Q : QQ} {Qc : Int32 → AH → Prop} {a : Nat} {said high : Int32} (hd : decode q.2.2.1 pc = .ok (.invokevirtual 109, 3)) (H : pv_weighsBy Qc a said high h) (kk : ∀ r h', Qc r h' → Att G T1 q (d + 3) (pc + 3) L (.int r :: rest) h' bc bs Q) (hq : q.1 = R_Dusk := by rfl) (hsum : (rest.map fun v => v.category).sum ≤ 8 := by decide) : Att G T1 q (d + 3) pc L (.int high :: .int said :: .ref a :: rest) h bc bs Q := by
  obtain ⟨⟨ha, hc⟩, H⟩ := H
  rcases hc with e | e | e | e | e | e
  · rw [e] at H
    exact A_cI (d := d + 2) [.ref a, .int said, .int high] rest (ctv_Dusk_109_Aunt hq) hd rfl rfl (by decide) hsum (rcA_o rfl ha e (by decide) rfl) (w_Aunt_weighsBy (d := d) ha e H) kk
  · rw [e] at H
    exact A_cI (d := d + 2) [.ref a, .int said, .int high] rest (ctv_Dusk_109_Braked hq) hd rfl rfl (by decide) hsum (rcA_o rfl ha e (by decide) rfl) (w_House_weighsBy (d := d + 2) (by simpa [kW, kH, kF] using H)) kk
  · rw [e] at H
    exact A_cI (d := d + 2) [.ref a, .int said, .int high] rest (ctv_Dusk_109_Heavy hq) hd rfl rfl (by decide) hsum (rcA_o rfl ha e (by decide) rfl) (w_Heavy_weighsBy (d := d + 1) (ctsu_Heavy_7_Heavy rfl) rfl (by decide) (fo_Heavy_11_3 rfl) rfl ha e (by simpa [kW] using H)) kk
  · rw [e] at H
    exact A_cI (d := d + 2) [.ref a, .int said, .int high] rest (ctv_Dusk_109_House hq) hd rfl rfl (by decide) hsum (rcA_o rfl ha e (by decide) rfl) (w_House_weighsBy (d := d + 2) (by simpa [kW, kH, kF] using H)) kk
  · rw [e] at H
    exact A_cI (d := d + 2) [.ref a, .int said, .int high] rest (ctv_Dusk_109_Late hq) hd rfl rfl (by decide) hsum (rcA_o rfl ha e (by decide) rfl) (w_Late_weighsBy (d := d + 1) ha e (by simpa [kW] using H)) kk
  · rw [e] at H
    exact A_cI (d := d + 2) [.ref a, .int said, .int high] rest (ctv_Dusk_109_Stuck hq) hd rfl rfl (by decide) hsum (rcA_o rfl ha e (by decide) rfl) (w_House_weighsBy (d := d + 2) (by simpa [kW, kH, kF] using H)) kk
theorem A_pv_holdsBy {G : GG} {q : MM} {d pc : Nat} {L : LL} {rest : List Value} {h : AH} {bc bs : Nat} {Q : QQ} {Qc : Int32 → AH → Prop} {a : Nat} {said : Int32} (hd : decode q.2.2.1 pc = .ok (.invokevirtual 112, 3)) (H : pv_holdsBy Qc a said h) (kk : ∀ r h', Qc r h' → Att G T1 q (d + 3) (pc + 3) L (.int r :: rest) h' bc bs Q) (hq : q.1 = R_Dusk := by rfl) (hsum : (rest.map fun v => v.category).sum ≤ 8 := by decide) : Att G T1 q (d + 3) pc L (.int said :: .ref a :: rest) h bc bs Q := by
  obtain ⟨⟨ha, hc⟩, H⟩ := H
  rcases hc with e | e | e | e | e | e
  · rw [e] at H
    exact A_cI (d := d + 2) [.ref a, .int said] rest (ctv_Dusk_112_Aunt hq) hd rfl rfl (by decide) hsum (rcA_o rfl ha e (by decide) rfl) (w_House_holdsBy (d := d + 2) (by simpa [kW, kH, kF] using H)) kk
  · rw [e] at H
    exact A_cI (d := d + 2) [.ref a, .int said] rest (ctv_Dusk_112_Braked hq) hd rfl rfl (by decide) hsum (rcA_o rfl ha e (by decide) rfl) (w_Braked_holdsBy (d := d + 1) (ctsu_Braked_7_Braked rfl) rfl (by decide) (fo_Braked_11_1 rfl) rfl ha e (by simpa [kH] using H)) kk
  · rw [e] at H
    exact A_cI (d := d + 2) [.ref a, .int said] rest (ctv_Dusk_112_Heavy hq) hd rfl rfl (by decide) hsum (rcA_o rfl ha e (by decide) rfl) (w_House_holdsBy (d := d + 2) (by simpa [kW, kH, kF] using H)) kk
  · rw [e] at H
    exact A_cI (d := d + 2) [.ref a, .int said] rest (ctv_Dusk_112_House hq) hd rfl rfl (by decide) hsum (rcA_o rfl ha e (by decide) rfl) (w_House_holdsBy (d := d + 2) (by simpa [kW, kH, kF] using H)) kk
  · rw [e] at H
    exact A_cI (d := d + 2) [.ref a, .int said] rest (ctv_Dusk_112_Late hq) hd rfl rfl (by decide) hsum (rcA_o rfl ha e (by decide) rfl) (w_House_holdsBy (d := d + 2) (by simpa [kW, kH, kF] using H)) kk
  · rw [e] at H
    exact A_cI (d := d + 2) [.ref a, .int said] rest (ctv_Dusk_112_Stuck hq) hd rfl rfl (by decide) hsum (rcA_o rfl ha e (by decide) rfl) (w_Braked_holdsBy (d := d + 1) (ctsu_Braked_7_Stuck rfl) rfl (by decide) (fo_Braked_11_9 rfl) rfl ha e (by simpa [kH] using H)) kk
theorem A_pv_isOf {G : GG} {q : MM} {d pc : Nat} {L : LL} {rest : List Value} {h : AH} {bc bs : Nat} {Q : QQ} {Qc : Int32 → AH → Prop} {a : Nat} {asked : Int32} (hd : decode q.2.2.1 pc = .ok (.invokevirtual 252, 3)) (H : pv_isOf Qc a asked h) (kk : ∀ r h', Qc r h' → Att G T1 q (d + 3) (pc + 3) L (.int r :: rest) h' bc bs Q) (hq : q.1 = R_UF := by rfl) (hsum : (rest.map fun v => v.category).sum ≤ 8 := by decide) : Att G T1 q (d + 3) pc L (.int asked :: .ref a :: rest) h bc bs Q := by
  obtain ⟨⟨ha, hc⟩, H⟩ := H
  have hc2 := hc
  rcases hc with e | e | e | e | e | e
  · rw [e] at H
    exact A_cI (d := d + 2) [.ref a, .int asked] rest (ctv_UF_252_Aunt hq) hd rfl rfl (by decide) hsum (rcA_o rfl ha e (by decide) rfl) (w_isOf (d := d + 2) hc2 ha rfl (by rw [e]; exact H)) kk
  · rw [e] at H
    exact A_cI (d := d + 2) [.ref a, .int asked] rest (ctv_UF_252_Braked hq) hd rfl rfl (by decide) hsum (rcA_o rfl ha e (by decide) rfl) (w_isOf (d := d + 2) hc2 ha rfl (by rw [e]; exact H)) kk
  · rw [e] at H
    exact A_cI (d := d + 2) [.ref a, .int asked] rest (ctv_UF_252_Heavy hq) hd rfl rfl (by decide) hsum (rcA_o rfl ha e (by decide) rfl) (w_isOf (d := d + 2) hc2 ha rfl (by rw [e]; exact H)) kk
  · rw [e] at H
    exact A_cI (d := d + 2) [.ref a, .int asked] rest (ctv_UF_252_House hq) hd rfl rfl (by decide) hsum (rcA_o rfl ha e (by decide) rfl) (w_isOf (d := d + 2) hc2 ha rfl (by rw [e]; exact H)) kk
  · rw [e] at H
    exact A_cI (d := d + 2) [.ref a, .int asked] rest (ctv_UF_252_Late hq) hd rfl rfl (by decide) hsum (rcA_o rfl ha e (by decide) rfl) (w_isOf (d := d + 2) hc2 ha rfl (by rw [e]; exact H)) kk
  · rw [e] at H
    exact A_cI (d := d + 2) [.ref a, .int asked] rest (ctv_UF_252_Stuck hq) hd rfl rfl (by decide) hsum (rcA_o rfl ha e (by decide) rfl) (w_isOf (d := d + 2) hc2 ha rfl (by rw [e]; exact H)) kk
end
