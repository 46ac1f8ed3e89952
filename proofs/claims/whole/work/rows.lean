section
-- ===== PART A: goes FIRST, ahead of the names: the tables' words, and 'selects' of the private methods out of them =====
/-- a private method of a class that the tables say can be made, by its rows of tables_1 -/
def lw_okq (q : MethodName × Nat) : Prop := (q.1.cls ≠ "java/lang/invoke/MethodHandle" ∧ q.1.cls ≠ "java/lang/invoke/VarHandle") ∧ Cond.instantiable q.1.cls q.2 ∈ tables_1 ∧ Cond.privateMethod q.1 ∈ tables_1 ∧ Cond.instanceMethod q.1 ∈ tables_1
theorem lw_p0 : lw_okq (⟨"UpperFloors$Reader", "next", "()V"⟩, 7) := ⟨⟨by decide +kernel, by decide +kernel⟩, List.mem_of_getElem? (i := 112) (by decide +kernel), List.mem_of_getElem? (i := 259) (by decide +kernel), List.mem_of_getElem? (i := 260) (by decide +kernel)⟩
theorem lw_p1 : lw_okq (⟨"UpperFloors$Reader", "word", "()V"⟩, 7) := ⟨⟨by decide +kernel, by decide +kernel⟩, List.mem_of_getElem? (i := 112) (by decide +kernel), List.mem_of_getElem? (i := 269) (by decide +kernel), List.mem_of_getElem? (i := 270) (by decide +kernel)⟩
theorem lw_p2 : lw_okq (⟨"UpperFloors$Reader", "isWord", "(Ljava/lang/String;)Z"⟩, 7) := ⟨⟨by decide +kernel, by decide +kernel⟩, List.mem_of_getElem? (i := 112) (by decide +kernel), List.mem_of_getElem? (i := 274) (by decide +kernel), List.mem_of_getElem? (i := 275) (by decide +kernel)⟩
theorem lw_p3 : lw_okq (⟨"UpperFloors$Reader", "nameRead", "()I"⟩, 7) := ⟨⟨by decide +kernel, by decide +kernel⟩, List.mem_of_getElem? (i := 112) (by decide +kernel), List.mem_of_getElem? (i := 285) (by decide +kernel), List.mem_of_getElem? (i := 286) (by decide +kernel)⟩
theorem lw_p4 : lw_okq (⟨"UpperFloors$Reader", "number", "()V"⟩, 7) := ⟨⟨by decide +kernel, by decide +kernel⟩, List.mem_of_getElem? (i := 112) (by decide +kernel), List.mem_of_getElem? (i := 298) (by decide +kernel), List.mem_of_getElem? (i := 299) (by decide +kernel)⟩
theorem lw_p5 : lw_okq (⟨"UpperFloors$Reader", "sign", "()V"⟩, 7) := ⟨⟨by decide +kernel, by decide +kernel⟩, List.mem_of_getElem? (i := 112) (by decide +kernel), List.mem_of_getElem? (i := 302) (by decide +kernel), List.mem_of_getElem? (i := 303) (by decide +kernel)⟩
theorem lw_p6 : lw_okq (⟨"UpperFloors$Reader", "take", "(I)Z"⟩, 7) := ⟨⟨by decide +kernel, by decide +kernel⟩, List.mem_of_getElem? (i := 112) (by decide +kernel), List.mem_of_getElem? (i := 306) (by decide +kernel), List.mem_of_getElem? (i := 307) (by decide +kernel)⟩
theorem lw_p7 : lw_okq (⟨"UpperFloors$Reader", "either", "(I)Z"⟩, 7) := ⟨⟨by decide +kernel, by decide +kernel⟩, List.mem_of_getElem? (i := 112) (by decide +kernel), List.mem_of_getElem? (i := 310) (by decide +kernel), List.mem_of_getElem? (i := 311) (by decide +kernel)⟩
theorem lw_p8 : lw_okq (⟨"UpperFloors$Reader", "both", "(I)Z"⟩, 7) := ⟨⟨by decide +kernel, by decide +kernel⟩, List.mem_of_getElem? (i := 112) (by decide +kernel), List.mem_of_getElem? (i := 314) (by decide +kernel), List.mem_of_getElem? (i := 315) (by decide +kernel)⟩
theorem lw_p9 : lw_okq (⟨"UpperFloors$Reader", "unless", "(I)Z"⟩, 7) := ⟨⟨by decide +kernel, by decide +kernel⟩, List.mem_of_getElem? (i := 112) (by decide +kernel), List.mem_of_getElem? (i := 318) (by decide +kernel), List.mem_of_getElem? (i := 319) (by decide +kernel)⟩
theorem lw_p10 : lw_okq (⟨"UpperFloors$Reader", "compared", "(I)Z"⟩, 7) := ⟨⟨by decide +kernel, by decide +kernel⟩, List.mem_of_getElem? (i := 112) (by decide +kernel), List.mem_of_getElem? (i := 322) (by decide +kernel), List.mem_of_getElem? (i := 323) (by decide +kernel)⟩
theorem lw_p11 : lw_okq (⟨"UpperFloors$Reader", "sum", "(I)Z"⟩, 7) := ⟨⟨by decide +kernel, by decide +kernel⟩, List.mem_of_getElem? (i := 112) (by decide +kernel), List.mem_of_getElem? (i := 326) (by decide +kernel), List.mem_of_getElem? (i := 327) (by decide +kernel)⟩
theorem lw_p12 : lw_okq (⟨"UpperFloors$Reader", "term", "(I)Z"⟩, 7) := ⟨⟨by decide +kernel, by decide +kernel⟩, List.mem_of_getElem? (i := 112) (by decide +kernel), List.mem_of_getElem? (i := 330) (by decide +kernel), List.mem_of_getElem? (i := 331) (by decide +kernel)⟩
theorem lw_p13 : lw_okq (⟨"UpperFloors$Reader", "one", "(I)Z"⟩, 7) := ⟨⟨by decide +kernel, by decide +kernel⟩, List.mem_of_getElem? (i := 112) (by decide +kernel), List.mem_of_getElem? (i := 334) (by decide +kernel), List.mem_of_getElem? (i := 335) (by decide +kernel)⟩
theorem lw_p14 : lw_okq (⟨"UpperFloors", "put", "(I)V"⟩, 11) := ⟨⟨by decide +kernel, by decide +kernel⟩, List.mem_of_getElem? (i := 22) (by decide +kernel), List.mem_of_getElem? (i := 406) (by decide +kernel), List.mem_of_getElem? (i := 407) (by decide +kernel)⟩
theorem lw_p15 : lw_okq (⟨"UpperFloors", "isHouse", "(I)Z"⟩, 11) := ⟨⟨by decide +kernel, by decide +kernel⟩, List.mem_of_getElem? (i := 22) (by decide +kernel), List.mem_of_getElem? (i := 422) (by decide +kernel), List.mem_of_getElem? (i := 423) (by decide +kernel)⟩
def lw_privs_1 : List (MethodName × Nat) := [(⟨"UpperFloors$Reader", "next", "()V"⟩, 7), (⟨"UpperFloors$Reader", "word", "()V"⟩, 7), (⟨"UpperFloors$Reader", "isWord", "(Ljava/lang/String;)Z"⟩, 7), (⟨"UpperFloors$Reader", "nameRead", "()I"⟩, 7), (⟨"UpperFloors$Reader", "number", "()V"⟩, 7), (⟨"UpperFloors$Reader", "sign", "()V"⟩, 7), (⟨"UpperFloors$Reader", "take", "(I)Z"⟩, 7), (⟨"UpperFloors$Reader", "either", "(I)Z"⟩, 7), (⟨"UpperFloors$Reader", "both", "(I)Z"⟩, 7), (⟨"UpperFloors$Reader", "unless", "(I)Z"⟩, 7), (⟨"UpperFloors$Reader", "compared", "(I)Z"⟩, 7), (⟨"UpperFloors$Reader", "sum", "(I)Z"⟩, 7), (⟨"UpperFloors$Reader", "term", "(I)Z"⟩, 7), (⟨"UpperFloors$Reader", "one", "(I)Z"⟩, 7), (⟨"UpperFloors", "put", "(I)V"⟩, 11), (⟨"UpperFloors", "isHouse", "(I)Z"⟩, 11)]
theorem lw_r1 : ∀ q ∈ lw_privs_1, lw_okq q := List.forall_mem_cons.mpr ⟨lw_p0, List.forall_mem_cons.mpr ⟨lw_p1, List.forall_mem_cons.mpr ⟨lw_p2, List.forall_mem_cons.mpr ⟨lw_p3, List.forall_mem_cons.mpr ⟨lw_p4, List.forall_mem_cons.mpr ⟨lw_p5, List.forall_mem_cons.mpr ⟨lw_p6, List.forall_mem_cons.mpr ⟨lw_p7, List.forall_mem_cons.mpr ⟨lw_p8, List.forall_mem_cons.mpr ⟨lw_p9, List.forall_mem_cons.mpr ⟨lw_p10, List.forall_mem_cons.mpr ⟨lw_p11, List.forall_mem_cons.mpr ⟨lw_p12, List.forall_mem_cons.mpr ⟨lw_p13, List.forall_mem_cons.mpr ⟨lw_p14, List.forall_mem_cons.mpr ⟨lw_p15, fun _ h => absurd h List.not_mem_nil⟩⟩⟩⟩⟩⟩⟩⟩⟩⟩⟩⟩⟩⟩⟩⟩
theorem lw_p16 : lw_okq (⟨"UpperFloors", "ready", "()V"⟩, 11) := ⟨⟨by decide +kernel, by decide +kernel⟩, List.mem_of_getElem? (i := 22) (by decide +kernel), List.mem_of_getElem? (i := 426) (by decide +kernel), List.mem_of_getElem? (i := 427) (by decide +kernel)⟩
theorem lw_p17 : lw_okq (⟨"UpperFloors", "settle", "(III)I"⟩, 11) := ⟨⟨by decide +kernel, by decide +kernel⟩, List.mem_of_getElem? (i := 22) (by decide +kernel), List.mem_of_getElem? (i := 464) (by decide +kernel), List.mem_of_getElem? (i := 465) (by decide +kernel)⟩
theorem lw_p18 : lw_okq (⟨"UpperFloors$Dusk", "alone", "(II)V"⟩, 9) := ⟨⟨by decide +kernel, by decide +kernel⟩, List.mem_of_getElem? (i := 70) (by decide +kernel), List.mem_of_getElem? (i := 561) (by decide +kernel), List.mem_of_getElem? (i := 562) (by decide +kernel)⟩
theorem lw_p19 : lw_okq (⟨"UpperFloors$Dusk", "holds", "(II)I"⟩, 9) := ⟨⟨by decide +kernel, by decide +kernel⟩, List.mem_of_getElem? (i := 70) (by decide +kernel), List.mem_of_getElem? (i := 603) (by decide +kernel), List.mem_of_getElem? (i := 604) (by decide +kernel)⟩
theorem lw_p20 : lw_okq (⟨"UpperFloors$Dusk", "sink", "(II)V"⟩, 9) := ⟨⟨by decide +kernel, by decide +kernel⟩, List.mem_of_getElem? (i := 70) (by decide +kernel), List.mem_of_getElem? (i := 620) (by decide +kernel), List.mem_of_getElem? (i := 621) (by decide +kernel)⟩
theorem lw_p21 : lw_okq (⟨"UpperFloors$Dusk", "pair", "(IIZ)V"⟩, 9) := ⟨⟨by decide +kernel, by decide +kernel⟩, List.mem_of_getElem? (i := 70) (by decide +kernel), List.mem_of_getElem? (i := 625) (by decide +kernel), List.mem_of_getElem? (i := 626) (by decide +kernel)⟩
theorem lw_p22 : lw_okq (⟨"UpperFloors$Dusk", "rise", "(I)V"⟩, 9) := ⟨⟨by decide +kernel, by decide +kernel⟩, List.mem_of_getElem? (i := 70) (by decide +kernel), List.mem_of_getElem? (i := 632) (by decide +kernel), List.mem_of_getElem? (i := 633) (by decide +kernel)⟩
theorem lw_p23 : lw_okq (⟨"UpperFloors", "tellingRefusal", "(I)I"⟩, 11) := ⟨⟨by decide +kernel, by decide +kernel⟩, List.mem_of_getElem? (i := 22) (by decide +kernel), List.mem_of_getElem? (i := 725) (by decide +kernel), List.mem_of_getElem? (i := 726) (by decide +kernel)⟩
theorem lw_p24 : lw_okq (⟨"UpperFloors", "drawnDown", "(III)I"⟩, 11) := ⟨⟨by decide +kernel, by decide +kernel⟩, List.mem_of_getElem? (i := 22) (by decide +kernel), List.mem_of_getElem? (i := 773) (by decide +kernel), List.mem_of_getElem? (i := 774) (by decide +kernel)⟩
theorem lw_p25 : lw_okq (⟨"UpperFloorsModel", "next", "()V"⟩, 40) := ⟨⟨by decide +kernel, by decide +kernel⟩, List.mem_of_getElem? (i := 831) (by decide +kernel), List.mem_of_getElem? (i := 841) (by decide +kernel), List.mem_of_getElem? (i := 842) (by decide +kernel)⟩
theorem lw_p26 : lw_okq (⟨"UpperFloorsModel", "wordFrom", "(II)I"⟩, 40) := ⟨⟨by decide +kernel, by decide +kernel⟩, List.mem_of_getElem? (i := 831) (by decide +kernel), List.mem_of_getElem? (i := 848) (by decide +kernel), List.mem_of_getElem? (i := 849) (by decide +kernel)⟩
theorem lw_p27 : lw_okq (⟨"UpperFloorsModel", "eRead", "()Z"⟩, 40) := ⟨⟨by decide +kernel, by decide +kernel⟩, List.mem_of_getElem? (i := 831) (by decide +kernel), List.mem_of_getElem? (i := 852) (by decide +kernel), List.mem_of_getElem? (i := 853) (by decide +kernel)⟩
theorem lw_p28 : lw_okq (⟨"UpperFloorsModel", "puts", "(I)V"⟩, 40) := ⟨⟨by decide +kernel, by decide +kernel⟩, List.mem_of_getElem? (i := 831) (by decide +kernel), List.mem_of_getElem? (i := 857) (by decide +kernel), List.mem_of_getElem? (i := 858) (by decide +kernel)⟩
theorem lw_p29 : lw_okq (⟨"UpperFloorsModel", "unwinds", "(I)V"⟩, 40) := ⟨⟨by decide +kernel, by decide +kernel⟩, List.mem_of_getElem? (i := 831) (by decide +kernel), List.mem_of_getElem? (i := 861) (by decide +kernel), List.mem_of_getElem? (i := 862) (by decide +kernel)⟩
theorem lw_p30 : lw_okq (⟨"UpperFloorsModel", "opensOne", "(I)Z"⟩, 40) := ⟨⟨by decide +kernel, by decide +kernel⟩, List.mem_of_getElem? (i := 831) (by decide +kernel), List.mem_of_getElem? (i := 868) (by decide +kernel), List.mem_of_getElem? (i := 869) (by decide +kernel)⟩
theorem lw_p31 : lw_okq (⟨"UpperFloorsModel", "holds", "(I)V"⟩, 40) := ⟨⟨by decide +kernel, by decide +kernel⟩, List.mem_of_getElem? (i := 831) (by decide +kernel), List.mem_of_getElem? (i := 872) (by decide +kernel), List.mem_of_getElem? (i := 873) (by decide +kernel)⟩
def lw_privs_2 : List (MethodName × Nat) := [(⟨"UpperFloors", "ready", "()V"⟩, 11), (⟨"UpperFloors", "settle", "(III)I"⟩, 11), (⟨"UpperFloors$Dusk", "alone", "(II)V"⟩, 9), (⟨"UpperFloors$Dusk", "holds", "(II)I"⟩, 9), (⟨"UpperFloors$Dusk", "sink", "(II)V"⟩, 9), (⟨"UpperFloors$Dusk", "pair", "(IIZ)V"⟩, 9), (⟨"UpperFloors$Dusk", "rise", "(I)V"⟩, 9), (⟨"UpperFloors", "tellingRefusal", "(I)I"⟩, 11), (⟨"UpperFloors", "drawnDown", "(III)I"⟩, 11), (⟨"UpperFloorsModel", "next", "()V"⟩, 40), (⟨"UpperFloorsModel", "wordFrom", "(II)I"⟩, 40), (⟨"UpperFloorsModel", "eRead", "()Z"⟩, 40), (⟨"UpperFloorsModel", "puts", "(I)V"⟩, 40), (⟨"UpperFloorsModel", "unwinds", "(I)V"⟩, 40), (⟨"UpperFloorsModel", "opensOne", "(I)Z"⟩, 40), (⟨"UpperFloorsModel", "holds", "(I)V"⟩, 40)]
theorem lw_r2 : ∀ q ∈ lw_privs_2, lw_okq q := List.forall_mem_cons.mpr ⟨lw_p16, List.forall_mem_cons.mpr ⟨lw_p17, List.forall_mem_cons.mpr ⟨lw_p18, List.forall_mem_cons.mpr ⟨lw_p19, List.forall_mem_cons.mpr ⟨lw_p20, List.forall_mem_cons.mpr ⟨lw_p21, List.forall_mem_cons.mpr ⟨lw_p22, List.forall_mem_cons.mpr ⟨lw_p23, List.forall_mem_cons.mpr ⟨lw_p24, List.forall_mem_cons.mpr ⟨lw_p25, List.forall_mem_cons.mpr ⟨lw_p26, List.forall_mem_cons.mpr ⟨lw_p27, List.forall_mem_cons.mpr ⟨lw_p28, List.forall_mem_cons.mpr ⟨lw_p29, List.forall_mem_cons.mpr ⟨lw_p30, List.forall_mem_cons.mpr ⟨lw_p31, fun _ h => absurd h List.not_mem_nil⟩⟩⟩⟩⟩⟩⟩⟩⟩⟩⟩⟩⟩⟩⟩⟩
theorem lw_p32 : lw_okq (⟨"UpperFloorsModel", "signOf", "()I"⟩, 40) := ⟨⟨by decide +kernel, by decide +kernel⟩, List.mem_of_getElem? (i := 831) (by decide +kernel), List.mem_of_getElem? (i := 876) (by decide +kernel), List.mem_of_getElem? (i := 877) (by decide +kernel)⟩
theorem lw_p33 : lw_okq (⟨"UpperFloorsModel", "between", "(I)Z"⟩, 40) := ⟨⟨by decide +kernel, by decide +kernel⟩, List.mem_of_getElem? (i := 831) (by decide +kernel), List.mem_of_getElem? (i := 880) (by decide +kernel), List.mem_of_getElem? (i := 881) (by decide +kernel)⟩
theorem lw_p34 : lw_okq (⟨"UpperFloorsModel", "chains", "()I"⟩, 40) := ⟨⟨by decide +kernel, by decide +kernel⟩, List.mem_of_getElem? (i := 831) (by decide +kernel), List.mem_of_getElem? (i := 1009) (by decide +kernel), List.mem_of_getElem? (i := 1010) (by decide +kernel)⟩
theorem lw_p35 : lw_okq (⟨"UpperFloorsModel", "isLesser", "(I)Z"⟩, 40) := ⟨⟨by decide +kernel, by decide +kernel⟩, List.mem_of_getElem? (i := 831) (by decide +kernel), List.mem_of_getElem? (i := 1013) (by decide +kernel), List.mem_of_getElem? (i := 1014) (by decide +kernel)⟩
theorem lw_p36 : lw_okq (⟨"UpperFloorsModel", "peopleAll", "()I"⟩, 40) := ⟨⟨by decide +kernel, by decide +kernel⟩, List.mem_of_getElem? (i := 831) (by decide +kernel), List.mem_of_getElem? (i := 1017) (by decide +kernel), List.mem_of_getElem? (i := 1018) (by decide +kernel)⟩
theorem lw_p37 : lw_okq (⟨"UpperFloorsModel", "isHouse", "(I)Z"⟩, 40) := ⟨⟨by decide +kernel, by decide +kernel⟩, List.mem_of_getElem? (i := 831) (by decide +kernel), List.mem_of_getElem? (i := 1037) (by decide +kernel), List.mem_of_getElem? (i := 1038) (by decide +kernel)⟩
theorem lw_p38 : lw_okq (⟨"UpperFloorsModel", "asksOf", "(IIIII)I"⟩, 40) := ⟨⟨by decide +kernel, by decide +kernel⟩, List.mem_of_getElem? (i := 831) (by decide +kernel), List.mem_of_getElem? (i := 1044) (by decide +kernel), List.mem_of_getElem? (i := 1045) (by decide +kernel)⟩
theorem lw_p39 : lw_okq (⟨"UpperFloorsModel", "says", "(I)I"⟩, 40) := ⟨⟨by decide +kernel, by decide +kernel⟩, List.mem_of_getElem? (i := 831) (by decide +kernel), List.mem_of_getElem? (i := 1048) (by decide +kernel), List.mem_of_getElem? (i := 1049) (by decide +kernel)⟩
theorem lw_p40 : lw_okq (⟨"UpperFloorsModel", "links", "(II)V"⟩, 40) := ⟨⟨by decide +kernel, by decide +kernel⟩, List.mem_of_getElem? (i := 831) (by decide +kernel), List.mem_of_getElem? (i := 1070) (by decide +kernel), List.mem_of_getElem? (i := 1071) (by decide +kernel)⟩
theorem lw_p41 : lw_okq (⟨"UpperFloorsModel", "comesFree", "(I)V"⟩, 40) := ⟨⟨by decide +kernel, by decide +kernel⟩, List.mem_of_getElem? (i := 831) (by decide +kernel), List.mem_of_getElem? (i := 1074) (by decide +kernel), List.mem_of_getElem? (i := 1075) (by decide +kernel)⟩
theorem lw_p42 : lw_okq (⟨"UpperFloorsModel", "lives", "(I)V"⟩, 40) := ⟨⟨by decide +kernel, by decide +kernel⟩, List.mem_of_getElem? (i := 831) (by decide +kernel), List.mem_of_getElem? (i := 1086) (by decide +kernel), List.mem_of_getElem? (i := 1087) (by decide +kernel)⟩
theorem lw_p43 : lw_okq (⟨"UpperFloorsModel", "livesBy", "(I)V"⟩, 40) := ⟨⟨by decide +kernel, by decide +kernel⟩, List.mem_of_getElem? (i := 831) (by decide +kernel), List.mem_of_getElem? (i := 1090) (by decide +kernel), List.mem_of_getElem? (i := 1091) (by decide +kernel)⟩
theorem lw_p44 : lw_okq (⟨"UpperFloorsModel", "minute", "(I)V"⟩, 40) := ⟨⟨by decide +kernel, by decide +kernel⟩, List.mem_of_getElem? (i := 831) (by decide +kernel), List.mem_of_getElem? (i := 1094) (by decide +kernel), List.mem_of_getElem? (i := 1095) (by decide +kernel)⟩
theorem lw_p45 : lw_okq (⟨"UpperFloorsModel", "alone", "(II)V"⟩, 40) := ⟨⟨by decide +kernel, by decide +kernel⟩, List.mem_of_getElem? (i := 831) (by decide +kernel), List.mem_of_getElem? (i := 1098) (by decide +kernel), List.mem_of_getElem? (i := 1099) (by decide +kernel)⟩
theorem lw_p46 : lw_okq (⟨"UpperFloorsModel", "isFree", "(II)Z"⟩, 40) := ⟨⟨by decide +kernel, by decide +kernel⟩, List.mem_of_getElem? (i := 831) (by decide +kernel), List.mem_of_getElem? (i := 1102) (by decide +kernel), List.mem_of_getElem? (i := 1103) (by decide +kernel)⟩
theorem lw_p47 : lw_okq (⟨"UpperFloorsModel", "weighs", "(II)I"⟩, 40) := ⟨⟨by decide +kernel, by decide +kernel⟩, List.mem_of_getElem? (i := 831) (by decide +kernel), List.mem_of_getElem? (i := 1106) (by decide +kernel), List.mem_of_getElem? (i := 1107) (by decide +kernel)⟩
def lw_privs_3 : List (MethodName × Nat) := [(⟨"UpperFloorsModel", "signOf", "()I"⟩, 40), (⟨"UpperFloorsModel", "between", "(I)Z"⟩, 40), (⟨"UpperFloorsModel", "chains", "()I"⟩, 40), (⟨"UpperFloorsModel", "isLesser", "(I)Z"⟩, 40), (⟨"UpperFloorsModel", "peopleAll", "()I"⟩, 40), (⟨"UpperFloorsModel", "isHouse", "(I)Z"⟩, 40), (⟨"UpperFloorsModel", "asksOf", "(IIIII)I"⟩, 40), (⟨"UpperFloorsModel", "says", "(I)I"⟩, 40), (⟨"UpperFloorsModel", "links", "(II)V"⟩, 40), (⟨"UpperFloorsModel", "comesFree", "(I)V"⟩, 40), (⟨"UpperFloorsModel", "lives", "(I)V"⟩, 40), (⟨"UpperFloorsModel", "livesBy", "(I)V"⟩, 40), (⟨"UpperFloorsModel", "minute", "(I)V"⟩, 40), (⟨"UpperFloorsModel", "alone", "(II)V"⟩, 40), (⟨"UpperFloorsModel", "isFree", "(II)Z"⟩, 40), (⟨"UpperFloorsModel", "weighs", "(II)I"⟩, 40)]
theorem lw_r3 : ∀ q ∈ lw_privs_3, lw_okq q := List.forall_mem_cons.mpr ⟨lw_p32, List.forall_mem_cons.mpr ⟨lw_p33, List.forall_mem_cons.mpr ⟨lw_p34, List.forall_mem_cons.mpr ⟨lw_p35, List.forall_mem_cons.mpr ⟨lw_p36, List.forall_mem_cons.mpr ⟨lw_p37, List.forall_mem_cons.mpr ⟨lw_p38, List.forall_mem_cons.mpr ⟨lw_p39, List.forall_mem_cons.mpr ⟨lw_p40, List.forall_mem_cons.mpr ⟨lw_p41, List.forall_mem_cons.mpr ⟨lw_p42, List.forall_mem_cons.mpr ⟨lw_p43, List.forall_mem_cons.mpr ⟨lw_p44, List.forall_mem_cons.mpr ⟨lw_p45, List.forall_mem_cons.mpr ⟨lw_p46, List.forall_mem_cons.mpr ⟨lw_p47, fun _ h => absurd h List.not_mem_nil⟩⟩⟩⟩⟩⟩⟩⟩⟩⟩⟩⟩⟩⟩⟩⟩
theorem lw_p48 : lw_okq (⟨"UpperFloorsModel", "holdsIt", "(II)I"⟩, 40) := ⟨⟨by decide +kernel, by decide +kernel⟩, List.mem_of_getElem? (i := 831) (by decide +kernel), List.mem_of_getElem? (i := 1110) (by decide +kernel), List.mem_of_getElem? (i := 1111) (by decide +kernel)⟩
theorem lw_p49 : lw_okq (⟨"UpperFloorsModel", "goesDown", "(II)V"⟩, 40) := ⟨⟨by decide +kernel, by decide +kernel⟩, List.mem_of_getElem? (i := 831) (by decide +kernel), List.mem_of_getElem? (i := 1114) (by decide +kernel), List.mem_of_getElem? (i := 1115) (by decide +kernel)⟩
theorem lw_p50 : lw_okq (⟨"UpperFloorsModel", "catches", "()Z"⟩, 40) := ⟨⟨by decide +kernel, by decide +kernel⟩, List.mem_of_getElem? (i := 831) (by decide +kernel), List.mem_of_getElem? (i := 1118) (by decide +kernel), List.mem_of_getElem? (i := 1119) (by decide +kernel)⟩
theorem lw_p51 : lw_okq (⟨"UpperFloorsModel", "chained", "(IIIZ)V"⟩, 40) := ⟨⟨by decide +kernel, by decide +kernel⟩, List.mem_of_getElem? (i := 831) (by decide +kernel), List.mem_of_getElem? (i := 1125) (by decide +kernel), List.mem_of_getElem? (i := 1126) (by decide +kernel)⟩
theorem lw_p52 : lw_okq (⟨"UpperFloorsModel", "sumOf", "(I)I"⟩, 40) := ⟨⟨by decide +kernel, by decide +kernel⟩, List.mem_of_getElem? (i := 831) (by decide +kernel), List.mem_of_getElem? (i := 1133) (by decide +kernel), List.mem_of_getElem? (i := 1134) (by decide +kernel)⟩
theorem lw_p53 : lw_okq (⟨"UpperFloorsModel", "whenOf", "(I)I"⟩, 40) := ⟨⟨by decide +kernel, by decide +kernel⟩, List.mem_of_getElem? (i := 831) (by decide +kernel), List.mem_of_getElem? (i := 1141) (by decide +kernel), List.mem_of_getElem? (i := 1142) (by decide +kernel)⟩
theorem lw_p54 : lw_okq (⟨"UpperFloorsModel", "downs", "(I)I"⟩, 40) := ⟨⟨by decide +kernel, by decide +kernel⟩, List.mem_of_getElem? (i := 831) (by decide +kernel), List.mem_of_getElem? (i := 1157) (by decide +kernel), List.mem_of_getElem? (i := 1158) (by decide +kernel)⟩
theorem lw_p55 : lw_okq (⟨"UpperFloorsModel", "downNow", "()I"⟩, 40) := ⟨⟨by decide +kernel, by decide +kernel⟩, List.mem_of_getElem? (i := 831) (by decide +kernel), List.mem_of_getElem? (i := 1161) (by decide +kernel), List.mem_of_getElem? (i := 1162) (by decide +kernel)⟩
theorem lw_p56 : lw_okq (⟨"UpperFloorsModel", "keeps", "()V"⟩, 40) := ⟨⟨by decide +kernel, by decide +kernel⟩, List.mem_of_getElem? (i := 831) (by decide +kernel), List.mem_of_getElem? (i := 1173) (by decide +kernel), List.mem_of_getElem? (i := 1174) (by decide +kernel)⟩
theorem lw_p57 : lw_okq (⟨"UpperFloorsModel", "laysBack", "()V"⟩, 40) := ⟨⟨by decide +kernel, by decide +kernel⟩, List.mem_of_getElem? (i := 831) (by decide +kernel), List.mem_of_getElem? (i := 1177) (by decide +kernel), List.mem_of_getElem? (i := 1178) (by decide +kernel)⟩
theorem lw_p58 : lw_okq (⟨"UpperFloorsModel", "toldWrong", "(II)I"⟩, 40) := ⟨⟨by decide +kernel, by decide +kernel⟩, List.mem_of_getElem? (i := 831) (by decide +kernel), List.mem_of_getElem? (i := 1201) (by decide +kernel), List.mem_of_getElem? (i := 1202) (by decide +kernel)⟩
theorem lw_p59 : lw_okq (⟨"UpperFloorsModel", "sheetWrong", "(I)I"⟩, 40) := ⟨⟨by decide +kernel, by decide +kernel⟩, List.mem_of_getElem? (i := 831) (by decide +kernel), List.mem_of_getElem? (i := 1205) (by decide +kernel), List.mem_of_getElem? (i := 1206) (by decide +kernel)⟩
theorem lw_p60 : lw_okq (⟨"UpperFloorsModel", "unlike", "(II)I"⟩, 40) := ⟨⟨by decide +kernel, by decide +kernel⟩, List.mem_of_getElem? (i := 831) (by decide +kernel), List.mem_of_getElem? (i := 1209) (by decide +kernel), List.mem_of_getElem? (i := 1210) (by decide +kernel)⟩
theorem lw_p61 : lw_okq (⟨"UpperFloorsModel", "downsBy", "(III)I"⟩, 40) := ⟨⟨by decide +kernel, by decide +kernel⟩, List.mem_of_getElem? (i := 831) (by decide +kernel), List.mem_of_getElem? (i := 1237) (by decide +kernel), List.mem_of_getElem? (i := 1238) (by decide +kernel)⟩
def lw_privs_4 : List (MethodName × Nat) := [(⟨"UpperFloorsModel", "holdsIt", "(II)I"⟩, 40), (⟨"UpperFloorsModel", "goesDown", "(II)V"⟩, 40), (⟨"UpperFloorsModel", "catches", "()Z"⟩, 40), (⟨"UpperFloorsModel", "chained", "(IIIZ)V"⟩, 40), (⟨"UpperFloorsModel", "sumOf", "(I)I"⟩, 40), (⟨"UpperFloorsModel", "whenOf", "(I)I"⟩, 40), (⟨"UpperFloorsModel", "downs", "(I)I"⟩, 40), (⟨"UpperFloorsModel", "downNow", "()I"⟩, 40), (⟨"UpperFloorsModel", "keeps", "()V"⟩, 40), (⟨"UpperFloorsModel", "laysBack", "()V"⟩, 40), (⟨"UpperFloorsModel", "toldWrong", "(II)I"⟩, 40), (⟨"UpperFloorsModel", "sheetWrong", "(I)I"⟩, 40), (⟨"UpperFloorsModel", "unlike", "(II)I"⟩, 40), (⟨"UpperFloorsModel", "downsBy", "(III)I"⟩, 40)]
theorem lw_r4 : ∀ q ∈ lw_privs_4, lw_okq q := List.forall_mem_cons.mpr ⟨lw_p48, List.forall_mem_cons.mpr ⟨lw_p49, List.forall_mem_cons.mpr ⟨lw_p50, List.forall_mem_cons.mpr ⟨lw_p51, List.forall_mem_cons.mpr ⟨lw_p52, List.forall_mem_cons.mpr ⟨lw_p53, List.forall_mem_cons.mpr ⟨lw_p54, List.forall_mem_cons.mpr ⟨lw_p55, List.forall_mem_cons.mpr ⟨lw_p56, List.forall_mem_cons.mpr ⟨lw_p57, List.forall_mem_cons.mpr ⟨lw_p58, List.forall_mem_cons.mpr ⟨lw_p59, List.forall_mem_cons.mpr ⟨lw_p60, List.forall_mem_cons.mpr ⟨lw_p61, fun _ h => absurd h List.not_mem_nil⟩⟩⟩⟩⟩⟩⟩⟩⟩⟩⟩⟩⟩⟩
def lw_privs : List (MethodName × Nat) := lw_privs_1 ++ (lw_privs_2 ++ (lw_privs_3 ++ (lw_privs_4)))
def lw_tbl : List Cond := k2_sels lw_privs ++ tables_1
theorem lw_privs_ok : ∀ q ∈ lw_privs, lw_okq q := by
  show ∀ q ∈ lw_privs_1 ++ (lw_privs_2 ++ (lw_privs_3 ++ (lw_privs_4))), lw_okq q
  exact List.forall_mem_append.mpr ⟨lw_r1, List.forall_mem_append.mpr ⟨lw_r2, List.forall_mem_append.mpr ⟨lw_r3, lw_r4⟩⟩⟩
-- ===== end of PART A; then your names; then what follows =====
end
section
def R_Aunt : String := "UpperFloors$Aunt"
def F_Aunt : u_T := fun k => match k with
  | 0 => ("UpperFloors$House", "kind", "I", true)
  | 1 => ("UpperFloors$House", "told", "I", true)
  | _ => ("UpperFloors$House", "more", "I", true)
def t_Aunt : Nat → FieldType := fun k => match k with
  | 0 => .int
  | 1 => .int
  | _ => .int
theorem n_Aunt : ∀ a, a < 3 → ∀ b, b < 3 → a ≠ b → (F_Aunt a).2.1 ≠ (F_Aunt b).2.1 := by decide +kernel
theorem t_Aunt_ok : ∀ k, k < 3 → parseFieldDescriptor (F_Aunt k).2.2.1 = some (t_Aunt k) := by decide +kernel
def R_Braked : String := "UpperFloors$Braked"
def F_Braked : u_T := fun k => match k with
  | 0 => ("UpperFloors$House", "kind", "I", true)
  | 1 => ("UpperFloors$House", "told", "I", true)
  | _ => ("UpperFloors$House", "more", "I", true)
def t_Braked : Nat → FieldType := fun k => match k with
  | 0 => .int
  | 1 => .int
  | _ => .int
theorem n_Braked : ∀ a, a < 3 → ∀ b, b < 3 → a ≠ b → (F_Braked a).2.1 ≠ (F_Braked b).2.1 := by decide +kernel
theorem t_Braked_ok : ∀ k, k < 3 → parseFieldDescriptor (F_Braked k).2.2.1 = some (t_Braked k) := by decide +kernel
def R_Dusk : String := "UpperFloors$Dusk"
def F_Dusk : u_T := fun k => match k with
  | 0 => ("UpperFloors$Dusk", "town", "LUpperFloors$Town;", true)
  | 1 => ("UpperFloors$Dusk", "houses", "[LUpperFloors$House;", true)
  | 2 => ("UpperFloors$Dusk", "run", "[I", true)
  | 3 => ("UpperFloors$Dusk", "moves", "[I", true)
  | 4 => ("UpperFloors$Dusk", "hits", "[I", true)
  | 5 => ("UpperFloors$Dusk", "lastHit", "[I", true)
  | 6 => ("UpperFloors$Dusk", "names", "[I", true)
  | 7 => ("UpperFloors$Dusk", "stack", "[I", true)
  | _ => ("UpperFloors$Dusk", "law", "LUpperFloors$Law;", false)
def t_Dusk : Nat → FieldType := fun k => match k with
  | 0 => .object "UpperFloors$Town"
  | 1 => .array (.object "UpperFloors$House")
  | 2 => .array .int
  | 3 => .array .int
  | 4 => .array .int
  | 5 => .array .int
  | 6 => .array .int
  | 7 => .array .int
  | _ => .object "UpperFloors$Law"
theorem n_Dusk : ∀ a, a < 9 → ∀ b, b < 9 → a ≠ b → (F_Dusk a).2.1 ≠ (F_Dusk b).2.1 := by decide +kernel
theorem t_Dusk_ok : ∀ k, k < 9 → parseFieldDescriptor (F_Dusk k).2.2.1 = some (t_Dusk k) := by decide +kernel
def R_Heavy : String := "UpperFloors$Heavy"
def F_Heavy : u_T := fun k => match k with
  | 0 => ("UpperFloors$House", "kind", "I", true)
  | 1 => ("UpperFloors$House", "told", "I", true)
  | _ => ("UpperFloors$House", "more", "I", true)
def t_Heavy : Nat → FieldType := fun k => match k with
  | 0 => .int
  | 1 => .int
  | _ => .int
theorem n_Heavy : ∀ a, a < 3 → ∀ b, b < 3 → a ≠ b → (F_Heavy a).2.1 ≠ (F_Heavy b).2.1 := by decide +kernel
theorem t_Heavy_ok : ∀ k, k < 3 → parseFieldDescriptor (F_Heavy k).2.2.1 = some (t_Heavy k) := by decide +kernel
def R_House : String := "UpperFloors$House"
def F_House : u_T := fun k => match k with
  | 0 => ("UpperFloors$House", "kind", "I", true)
  | 1 => ("UpperFloors$House", "told", "I", true)
  | _ => ("UpperFloors$House", "more", "I", true)
def t_House : Nat → FieldType := fun k => match k with
  | 0 => .int
  | 1 => .int
  | _ => .int
theorem n_House : ∀ a, a < 3 → ∀ b, b < 3 → a ≠ b → (F_House a).2.1 ≠ (F_House b).2.1 := by decide +kernel
theorem t_House_ok : ∀ k, k < 3 → parseFieldDescriptor (F_House k).2.2.1 = some (t_House k) := by decide +kernel
def R_Late : String := "UpperFloors$Late"
def F_Late : u_T := fun k => match k with
  | 0 => ("UpperFloors$House", "kind", "I", true)
  | 1 => ("UpperFloors$House", "told", "I", true)
  | _ => ("UpperFloors$House", "more", "I", true)
def t_Late : Nat → FieldType := fun k => match k with
  | 0 => .int
  | 1 => .int
  | _ => .int
theorem n_Late : ∀ a, a < 3 → ∀ b, b < 3 → a ≠ b → (F_Late a).2.1 ≠ (F_Late b).2.1 := by decide +kernel
theorem t_Late_ok : ∀ k, k < 3 → parseFieldDescriptor (F_Late k).2.2.1 = some (t_Late k) := by decide +kernel
def R_Law : String := "UpperFloors$Law"
def F_Law : u_T := fun k => match k with
  | 0 => ("UpperFloors$Law", "steps", "[I", true)
  | 1 => ("UpperFloors$Law", "from", "[I", true)
  | _ => ("UpperFloors$Law", "size", "I", false)
def t_Law : Nat → FieldType := fun k => match k with
  | 0 => .array .int
  | 1 => .array .int
  | _ => .int
theorem n_Law : ∀ a, a < 3 → ∀ b, b < 3 → a ≠ b → (F_Law a).2.1 ≠ (F_Law b).2.1 := by decide +kernel
theorem t_Law_ok : ∀ k, k < 3 → parseFieldDescriptor (F_Law k).2.2.1 = some (t_Law k) := by decide +kernel
def R_Reader : String := "UpperFloors$Reader"
def F_Reader : u_T := fun k => match k with
  | 0 => ("UpperFloors$Reader", "tape", "[I", false)
  | 1 => ("UpperFloors$Reader", "tapeSize", "I", false)
  | 2 => ("UpperFloors$Reader", "law", "LUpperFloors$Law;", false)
  | 3 => ("UpperFloors$Reader", "at", "I", false)
  | 4 => ("UpperFloors$Reader", "start", "I", false)
  | 5 => ("UpperFloors$Reader", "token", "I", false)
  | _ => ("UpperFloors$Reader", "value", "I", false)
def t_Reader : Nat → FieldType := fun k => match k with
  | 0 => .array .int
  | 1 => .int
  | 2 => .object "UpperFloors$Law"
  | 3 => .int
  | 4 => .int
  | 5 => .int
  | _ => .int
theorem n_Reader : ∀ a, a < 7 → ∀ b, b < 7 → a ≠ b → (F_Reader a).2.1 ≠ (F_Reader b).2.1 := by decide +kernel
theorem t_Reader_ok : ∀ k, k < 7 → parseFieldDescriptor (F_Reader k).2.2.1 = some (t_Reader k) := by decide +kernel
def R_Sheet : String := "UpperFloors$Sheet"
def F_Sheet : u_T := fun k => match k with
  | 0 => ("UpperFloors$Sheet", "row", "[I", true)
  | 1 => ("UpperFloors$Sheet", "sort", "I", false)
  | _ => ("UpperFloors$Sheet", "size", "I", false)
def t_Sheet : Nat → FieldType := fun k => match k with
  | 0 => .array .int
  | 1 => .int
  | _ => .int
theorem n_Sheet : ∀ a, a < 3 → ∀ b, b < 3 → a ≠ b → (F_Sheet a).2.1 ≠ (F_Sheet b).2.1 := by decide +kernel
theorem t_Sheet_ok : ∀ k, k < 3 → parseFieldDescriptor (F_Sheet k).2.2.1 = some (t_Sheet k) := by decide +kernel
def R_Stuck : String := "UpperFloors$Stuck"
def F_Stuck : u_T := fun k => match k with
  | 0 => ("UpperFloors$House", "kind", "I", true)
  | 1 => ("UpperFloors$House", "told", "I", true)
  | _ => ("UpperFloors$House", "more", "I", true)
def t_Stuck : Nat → FieldType := fun k => match k with
  | 0 => .int
  | 1 => .int
  | _ => .int
theorem n_Stuck : ∀ a, a < 3 → ∀ b, b < 3 → a ≠ b → (F_Stuck a).2.1 ≠ (F_Stuck b).2.1 := by decide +kernel
theorem t_Stuck_ok : ∀ k, k < 3 → parseFieldDescriptor (F_Stuck k).2.2.1 = some (t_Stuck k) := by decide +kernel
def R_Town : String := "UpperFloors$Town"
def F_Town : u_T := fun k => match k with
  | 0 => ("UpperFloors$Town", "high", "[I", true)
  | 1 => ("UpperFloors$Town", "people", "[I", true)
  | 2 => ("UpperFloors$Town", "partner", "[I", true)
  | 3 => ("UpperFloors$Town", "size", "I", false)
  | _ => ("UpperFloors$Town", "law", "I", false)
def t_Town : Nat → FieldType := fun k => match k with
  | 0 => .array .int
  | 1 => .array .int
  | 2 => .array .int
  | 3 => .int
  | _ => .int
theorem n_Town : ∀ a, a < 5 → ∀ b, b < 5 → a ≠ b → (F_Town a).2.1 ≠ (F_Town b).2.1 := by decide +kernel
theorem t_Town_ok : ∀ k, k < 5 → parseFieldDescriptor (F_Town k).2.2.1 = some (t_Town k) := by decide +kernel
def R_UF : String := "UpperFloors"
def F_UF : u_T := fun k => match k with
  | 0 => ("UpperFloors", "houses", "[LUpperFloors$House;", true)
  | 1 => ("UpperFloors", "texts", "[LUpperFloors$Law;", true)
  | 2 => ("UpperFloors", "sheets", "[LUpperFloors$Sheet;", true)
  | 3 => ("UpperFloors", "tape", "[I", true)
  | 4 => ("UpperFloors", "now", "LUpperFloors$Town;", true)
  | 5 => ("UpperFloors", "kept", "LUpperFloors$Town;", true)
  | 6 => ("UpperFloors", "dusk", "LUpperFloors$Dusk;", true)
  | 7 => ("UpperFloors", "reader", "LUpperFloors$Reader;", true)
  | 8 => ("UpperFloors", "textCount", "I", false)
  | 9 => ("UpperFloors", "tapeSize", "I", false)
  | _ => ("UpperFloors", "keeps", "Z", false)
def t_UF : Nat → FieldType := fun k => match k with
  | 0 => .array (.object "UpperFloors$House")
  | 1 => .array (.object "UpperFloors$Law")
  | 2 => .array (.object "UpperFloors$Sheet")
  | 3 => .array .int
  | 4 => .object "UpperFloors$Town"
  | 5 => .object "UpperFloors$Town"
  | 6 => .object "UpperFloors$Dusk"
  | 7 => .object "UpperFloors$Reader"
  | 8 => .int
  | 9 => .int
  | _ => .boolean
theorem n_UF : ∀ a, a < 11 → ∀ b, b < 11 → a ≠ b → (F_UF a).2.1 ≠ (F_UF b).2.1 := by decide +kernel
theorem t_UF_ok : ∀ k, k < 11 → parseFieldDescriptor (F_UF k).2.2.1 = some (t_UF k) := by decide +kernel
def R_MO : String := "UpperFloorsModel"
def F_MO : u_T := fun k => match k with
  | 0 => ("UpperFloorsModel", "houses", "I", false)
  | 1 => ("UpperFloorsModel", "kind", "[I", true)
  | 2 => ("UpperFloorsModel", "toldOf", "[I", true)
  | 3 => ("UpperFloorsModel", "moreOf", "[I", true)
  | 4 => ("UpperFloorsModel", "highOf", "[I", true)
  | 5 => ("UpperFloorsModel", "peopleOf", "[I", true)
  | 6 => ("UpperFloorsModel", "chainOf", "[I", true)
  | 7 => ("UpperFloorsModel", "tape", "[I", true)
  | 8 => ("UpperFloorsModel", "taped", "I", false)
  | 9 => ("UpperFloorsModel", "codes", "[I", true)
  | 10 => ("UpperFloorsModel", "starts", "[I", true)
  | 11 => ("UpperFloorsModel", "texts", "I", false)
  | 12 => ("UpperFloorsModel", "rule", "I", false)
  | 13 => ("UpperFloorsModel", "hasImage", "Z", false)
  | 14 => ("UpperFloorsModel", "imageHouses", "I", false)
  | 15 => ("UpperFloorsModel", "imageRule", "I", false)
  | 16 => ("UpperFloorsModel", "imageRows", "[I", true)
  | 17 => ("UpperFloorsModel", "sheetSort", "[I", true)
  | 18 => ("UpperFloorsModel", "sheetSize", "[I", true)
  | 19 => ("UpperFloorsModel", "cells", "[I", true)
  | 20 => ("UpperFloorsModel", "law", "[I", true)
  | 21 => ("UpperFloorsModel", "at", "I", false)
  | 22 => ("UpperFloorsModel", "begun", "I", false)
  | 23 => ("UpperFloorsModel", "token", "I", false)
  | 24 => ("UpperFloorsModel", "value", "I", false)
  | 25 => ("UpperFloorsModel", "words", "[I", true)
  | 26 => ("UpperFloorsModel", "held", "[I", true)
  | 27 => ("UpperFloorsModel", "heldMany", "I", false)
  | 28 => ("UpperFloorsModel", "opens", "I", false)
  | 29 => ("UpperFloorsModel", "out", "I", false)
  | 30 => ("UpperFloorsModel", "stack", "[I", true)
  | 31 => ("UpperFloorsModel", "named", "[I", true)
  | 32 => ("UpperFloorsModel", "now", "[I", true)
  | 33 => ("UpperFloorsModel", "moved", "[I", true)
  | 34 => ("UpperFloorsModel", "runs", "[I", true)
  | 35 => ("UpperFloorsModel", "lastHit", "[I", true)
  | 36 => ("UpperFloorsModel", "hitsOf", "[I", true)
  | 37 => ("UpperFloorsModel", "hundredthNow", "I", false)
  | 38 => ("UpperFloorsModel", "lot", "J", false)
  | _ => ("UpperFloorsModel", "keptChain", "[I", true)
def t_MO : Nat → FieldType := fun k => match k with
  | 0 => .int
  | 1 => .array .int
  | 2 => .array .int
  | 3 => .array .int
  | 4 => .array .int
  | 5 => .array .int
  | 6 => .array .int
  | 7 => .array .int
  | 8 => .int
  | 9 => .array .int
  | 10 => .array .int
  | 11 => .int
  | 12 => .int
  | 13 => .boolean
  | 14 => .int
  | 15 => .int
  | 16 => .array .int
  | 17 => .array .int
  | 18 => .array .int
  | 19 => .array .int
  | 20 => .array .int
  | 21 => .int
  | 22 => .int
  | 23 => .int
  | 24 => .int
  | 25 => .array .int
  | 26 => .array .int
  | 27 => .int
  | 28 => .int
  | 29 => .int
  | 30 => .array .int
  | 31 => .array .int
  | 32 => .array .int
  | 33 => .array .int
  | 34 => .array .int
  | 35 => .array .int
  | 36 => .array .int
  | 37 => .int
  | 38 => .long
  | _ => .array .int
theorem n_MO : ∀ a, a < 40 → ∀ b, b < 40 → a ≠ b → (F_MO a).2.1 ≠ (F_MO b).2.1 := by decide +kernel
theorem t_MO_ok : ∀ k, k < 40 → parseFieldDescriptor (F_MO k).2.2.1 = some (t_MO k) := by decide +kernel
abbrev clL : List vw_C := [(R_Aunt, F_Aunt, 3), (R_Braked, F_Braked, 3), (R_Dusk, F_Dusk, 9), (R_Heavy, F_Heavy, 3), (R_House, F_House, 3), (R_Late, F_Late, 3), (R_Law, F_Law, 3), (R_Reader, F_Reader, 7), (R_Sheet, F_Sheet, 3), (R_Stuck, F_Stuck, 3), (R_Town, F_Town, 5), (R_UF, F_UF, 11), (R_MO, F_MO, 40)]
def ftyL : List (List Nat) := [[0, 0, 0], [0, 0, 0], [1, 1, 1, 1, 1, 1, 1, 1, 1], [0, 0, 0], [0, 0, 0], [0, 0, 0], [1, 1, 0], [1, 0, 1, 0, 0, 0, 0], [1, 0, 0], [0, 0, 0], [1, 1, 1, 0, 0], [1, 1, 1, 1, 1, 1, 1, 1, 0, 0, 0], [0, 1, 1, 1, 1, 1, 1, 1, 0, 1, 1, 0, 0, 0, 0, 0, 1, 1, 1, 1, 1, 0, 0, 0, 0, 1, 1, 0, 0, 0, 1, 1, 1, 1, 1, 1, 1, 0, 2, 1]]
def nfL : List Nat := [3, 3, 9, 3, 3, 3, 3, 7, 3, 3, 5, 11, 40]
def tblG : List Cond := lw_tbl.filter goodWord
theorem tG {w : Cond} (i : Nat) (h : tables_1[i]? = some w) (g : goodWord w = true) : w ∈ tblG := List.mem_filter.mpr ⟨List.mem_append_right _ (List.mem_of_getElem? h), g⟩
theorem sG {w : Cond} (i : Nat) (h : (k2_sels lw_privs)[i]? = some w) (g : goodWord w = true) : w ∈ tblG := List.mem_filter.mpr ⟨List.mem_append_left _ (List.mem_of_getElem? h), g⟩
theorem gG : ∀ w ∈ tblG, (w.onTables && w.keeps) = true ∨ ∃ ty, w = .arrayClass ty := fun w h => good_of_word (List.mem_filter.mp h).2
theorem i_Aunt : ∀ w ∈ u_ws R_Aunt F_Aunt 3, w ∈ tblG := by
  intro w h
  have h2 : w = u_lay R_Aunt F_Aunt 0 ∨ w = u_lay R_Aunt F_Aunt 1 ∨ w = u_lay R_Aunt F_Aunt 2 := by simpa [u_ws, List.range, List.range.loop] using h
  rcases h2 with rfl | rfl | rfl
  · exact tG 496 (by decide +kernel) (by decide +kernel)
  · exact tG 497 (by decide +kernel) (by decide +kernel)
  · exact tG 498 (by decide +kernel) (by decide +kernel)
theorem i_Braked : ∀ w ∈ u_ws R_Braked F_Braked 3, w ∈ tblG := by
  intro w h
  have h2 : w = u_lay R_Braked F_Braked 0 ∨ w = u_lay R_Braked F_Braked 1 ∨ w = u_lay R_Braked F_Braked 2 := by simpa [u_ws, List.range, List.range.loop] using h
  rcases h2 with rfl | rfl | rfl
  · exact tG 486 (by decide +kernel) (by decide +kernel)
  · exact tG 487 (by decide +kernel) (by decide +kernel)
  · exact tG 488 (by decide +kernel) (by decide +kernel)
theorem i_Dusk : ∀ w ∈ u_ws R_Dusk F_Dusk 9, w ∈ tblG := by
  intro w h
  have h2 : w = u_lay R_Dusk F_Dusk 0 ∨ w = u_lay R_Dusk F_Dusk 1 ∨ w = u_lay R_Dusk F_Dusk 2 ∨ w = u_lay R_Dusk F_Dusk 3 ∨ w = u_lay R_Dusk F_Dusk 4 ∨ w = u_lay R_Dusk F_Dusk 5 ∨ w = u_lay R_Dusk F_Dusk 6 ∨ w = u_lay R_Dusk F_Dusk 7 ∨ w = u_lay R_Dusk F_Dusk 8 := by simpa [u_ws, List.range, List.range.loop] using h
  rcases h2 with rfl | rfl | rfl | rfl | rfl | rfl | rfl | rfl | rfl
  · exact tG 92 (by decide +kernel) (by decide +kernel)
  · exact tG 94 (by decide +kernel) (by decide +kernel)
  · exact tG 96 (by decide +kernel) (by decide +kernel)
  · exact tG 98 (by decide +kernel) (by decide +kernel)
  · exact tG 100 (by decide +kernel) (by decide +kernel)
  · exact tG 102 (by decide +kernel) (by decide +kernel)
  · exact tG 104 (by decide +kernel) (by decide +kernel)
  · exact tG 106 (by decide +kernel) (by decide +kernel)
  · exact tG 108 (by decide +kernel) (by decide +kernel)
theorem i_Heavy : ∀ w ∈ u_ws R_Heavy F_Heavy 3, w ∈ tblG := by
  intro w h
  have h2 : w = u_lay R_Heavy F_Heavy 0 ∨ w = u_lay R_Heavy F_Heavy 1 ∨ w = u_lay R_Heavy F_Heavy 2 := by simpa [u_ws, List.range, List.range.loop] using h
  rcases h2 with rfl | rfl | rfl
  · exact tG 476 (by decide +kernel) (by decide +kernel)
  · exact tG 477 (by decide +kernel) (by decide +kernel)
  · exact tG 478 (by decide +kernel) (by decide +kernel)
theorem i_House : ∀ w ∈ u_ws R_House F_House 3, w ∈ tblG := by
  intro w h
  have h2 : w = u_lay R_House F_House 0 ∨ w = u_lay R_House F_House 1 ∨ w = u_lay R_House F_House 2 := by simpa [u_ws, List.range, List.range.loop] using h
  rcases h2 with rfl | rfl | rfl
  · exact tG 160 (by decide +kernel) (by decide +kernel)
  · exact tG 162 (by decide +kernel) (by decide +kernel)
  · exact tG 164 (by decide +kernel) (by decide +kernel)
theorem i_Late : ∀ w ∈ u_ws R_Late F_Late 3, w ∈ tblG := by
  intro w h
  have h2 : w = u_lay R_Late F_Late 0 ∨ w = u_lay R_Late F_Late 1 ∨ w = u_lay R_Late F_Late 2 := by simpa [u_ws, List.range, List.range.loop] using h
  rcases h2 with rfl | rfl | rfl
  · exact tG 516 (by decide +kernel) (by decide +kernel)
  · exact tG 517 (by decide +kernel) (by decide +kernel)
  · exact tG 518 (by decide +kernel) (by decide +kernel)
theorem i_Law : ∀ w ∈ u_ws R_Law F_Law 3, w ∈ tblG := by
  intro w h
  have h2 : w = u_lay R_Law F_Law 0 ∨ w = u_lay R_Law F_Law 1 ∨ w = u_lay R_Law F_Law 2 := by simpa [u_ws, List.range, List.range.loop] using h
  rcases h2 with rfl | rfl | rfl
  · exact tG 177 (by decide +kernel) (by decide +kernel)
  · exact tG 179 (by decide +kernel) (by decide +kernel)
  · exact tG 181 (by decide +kernel) (by decide +kernel)
theorem i_Reader : ∀ w ∈ u_ws R_Reader F_Reader 7, w ∈ tblG := by
  intro w h
  have h2 : w = u_lay R_Reader F_Reader 0 ∨ w = u_lay R_Reader F_Reader 1 ∨ w = u_lay R_Reader F_Reader 2 ∨ w = u_lay R_Reader F_Reader 3 ∨ w = u_lay R_Reader F_Reader 4 ∨ w = u_lay R_Reader F_Reader 5 ∨ w = u_lay R_Reader F_Reader 6 := by simpa [u_ws, List.range, List.range.loop] using h
  rcases h2 with rfl | rfl | rfl | rfl | rfl | rfl | rfl
  · exact tG 124 (by decide +kernel) (by decide +kernel)
  · exact tG 126 (by decide +kernel) (by decide +kernel)
  · exact tG 128 (by decide +kernel) (by decide +kernel)
  · exact tG 130 (by decide +kernel) (by decide +kernel)
  · exact tG 132 (by decide +kernel) (by decide +kernel)
  · exact tG 134 (by decide +kernel) (by decide +kernel)
  · exact tG 136 (by decide +kernel) (by decide +kernel)
theorem i_Sheet : ∀ w ∈ u_ws R_Sheet F_Sheet 3, w ∈ tblG := by
  intro w h
  have h2 : w = u_lay R_Sheet F_Sheet 0 ∨ w = u_lay R_Sheet F_Sheet 1 ∨ w = u_lay R_Sheet F_Sheet 2 := by simpa [u_ws, List.range, List.range.loop] using h
  rcases h2 with rfl | rfl | rfl
  · exact tG 195 (by decide +kernel) (by decide +kernel)
  · exact tG 197 (by decide +kernel) (by decide +kernel)
  · exact tG 199 (by decide +kernel) (by decide +kernel)
theorem i_Stuck : ∀ w ∈ u_ws R_Stuck F_Stuck 3, w ∈ tblG := by
  intro w h
  have h2 : w = u_lay R_Stuck F_Stuck 0 ∨ w = u_lay R_Stuck F_Stuck 1 ∨ w = u_lay R_Stuck F_Stuck 2 := by simpa [u_ws, List.range, List.range.loop] using h
  rcases h2 with rfl | rfl | rfl
  · exact tG 506 (by decide +kernel) (by decide +kernel)
  · exact tG 507 (by decide +kernel) (by decide +kernel)
  · exact tG 508 (by decide +kernel) (by decide +kernel)
theorem i_Town : ∀ w ∈ u_ws R_Town F_Town 5, w ∈ tblG := by
  intro w h
  have h2 : w = u_lay R_Town F_Town 0 ∨ w = u_lay R_Town F_Town 1 ∨ w = u_lay R_Town F_Town 2 ∨ w = u_lay R_Town F_Town 3 ∨ w = u_lay R_Town F_Town 4 := by simpa [u_ws, List.range, List.range.loop] using h
  rcases h2 with rfl | rfl | rfl | rfl | rfl
  · exact tG 57 (by decide +kernel) (by decide +kernel)
  · exact tG 59 (by decide +kernel) (by decide +kernel)
  · exact tG 61 (by decide +kernel) (by decide +kernel)
  · exact tG 63 (by decide +kernel) (by decide +kernel)
  · exact tG 65 (by decide +kernel) (by decide +kernel)
theorem i_UF : ∀ w ∈ u_ws R_UF F_UF 11, w ∈ tblG := by
  intro w h
  have h2 : w = u_lay R_UF F_UF 0 ∨ w = u_lay R_UF F_UF 1 ∨ w = u_lay R_UF F_UF 2 ∨ w = u_lay R_UF F_UF 3 ∨ w = u_lay R_UF F_UF 4 ∨ w = u_lay R_UF F_UF 5 ∨ w = u_lay R_UF F_UF 6 ∨ w = u_lay R_UF F_UF 7 ∨ w = u_lay R_UF F_UF 8 ∨ w = u_lay R_UF F_UF 9 ∨ w = u_lay R_UF F_UF 10 := by simpa [u_ws, List.range, List.range.loop] using h
  rcases h2 with rfl | rfl | rfl | rfl | rfl | rfl | rfl | rfl | rfl | rfl | rfl
  · exact tG 357 (by decide +kernel) (by decide +kernel)
  · exact tG 359 (by decide +kernel) (by decide +kernel)
  · exact tG 361 (by decide +kernel) (by decide +kernel)
  · exact tG 363 (by decide +kernel) (by decide +kernel)
  · exact tG 365 (by decide +kernel) (by decide +kernel)
  · exact tG 367 (by decide +kernel) (by decide +kernel)
  · exact tG 369 (by decide +kernel) (by decide +kernel)
  · exact tG 371 (by decide +kernel) (by decide +kernel)
  · exact tG 373 (by decide +kernel) (by decide +kernel)
  · exact tG 375 (by decide +kernel) (by decide +kernel)
  · exact tG 377 (by decide +kernel) (by decide +kernel)
theorem i_MO : ∀ w ∈ u_ws R_MO F_MO 40, w ∈ tblG := by
  intro w h
  have h2 : w = u_lay R_MO F_MO 0 ∨ w = u_lay R_MO F_MO 1 ∨ w = u_lay R_MO F_MO 2 ∨ w = u_lay R_MO F_MO 3 ∨ w = u_lay R_MO F_MO 4 ∨ w = u_lay R_MO F_MO 5 ∨ w = u_lay R_MO F_MO 6 ∨ w = u_lay R_MO F_MO 7 ∨ w = u_lay R_MO F_MO 8 ∨ w = u_lay R_MO F_MO 9 ∨ w = u_lay R_MO F_MO 10 ∨ w = u_lay R_MO F_MO 11 ∨ w = u_lay R_MO F_MO 12 ∨ w = u_lay R_MO F_MO 13 ∨ w = u_lay R_MO F_MO 14 ∨ w = u_lay R_MO F_MO 15 ∨ w = u_lay R_MO F_MO 16 ∨ w = u_lay R_MO F_MO 17 ∨ w = u_lay R_MO F_MO 18 ∨ w = u_lay R_MO F_MO 19 ∨ w = u_lay R_MO F_MO 20 ∨ w = u_lay R_MO F_MO 21 ∨ w = u_lay R_MO F_MO 22 ∨ w = u_lay R_MO F_MO 23 ∨ w = u_lay R_MO F_MO 24 ∨ w = u_lay R_MO F_MO 25 ∨ w = u_lay R_MO F_MO 26 ∨ w = u_lay R_MO F_MO 27 ∨ w = u_lay R_MO F_MO 28 ∨ w = u_lay R_MO F_MO 29 ∨ w = u_lay R_MO F_MO 30 ∨ w = u_lay R_MO F_MO 31 ∨ w = u_lay R_MO F_MO 32 ∨ w = u_lay R_MO F_MO 33 ∨ w = u_lay R_MO F_MO 34 ∨ w = u_lay R_MO F_MO 35 ∨ w = u_lay R_MO F_MO 36 ∨ w = u_lay R_MO F_MO 37 ∨ w = u_lay R_MO F_MO 38 ∨ w = u_lay R_MO F_MO 39 := by simpa [u_ws, List.range, List.range.loop] using h
  rcases h2 with rfl | rfl | rfl | rfl | rfl | rfl | rfl | rfl | rfl | rfl | rfl | rfl | rfl | rfl | rfl | rfl | rfl | rfl | rfl | rfl | rfl | rfl | rfl | rfl | rfl | rfl | rfl | rfl | rfl | rfl | rfl | rfl | rfl | rfl | rfl | rfl | rfl | rfl | rfl | rfl
  · exact tG 923 (by decide +kernel) (by decide +kernel)
  · exact tG 925 (by decide +kernel) (by decide +kernel)
  · exact tG 927 (by decide +kernel) (by decide +kernel)
  · exact tG 929 (by decide +kernel) (by decide +kernel)
  · exact tG 931 (by decide +kernel) (by decide +kernel)
  · exact tG 933 (by decide +kernel) (by decide +kernel)
  · exact tG 935 (by decide +kernel) (by decide +kernel)
  · exact tG 937 (by decide +kernel) (by decide +kernel)
  · exact tG 939 (by decide +kernel) (by decide +kernel)
  · exact tG 941 (by decide +kernel) (by decide +kernel)
  · exact tG 943 (by decide +kernel) (by decide +kernel)
  · exact tG 945 (by decide +kernel) (by decide +kernel)
  · exact tG 947 (by decide +kernel) (by decide +kernel)
  · exact tG 949 (by decide +kernel) (by decide +kernel)
  · exact tG 951 (by decide +kernel) (by decide +kernel)
  · exact tG 953 (by decide +kernel) (by decide +kernel)
  · exact tG 955 (by decide +kernel) (by decide +kernel)
  · exact tG 957 (by decide +kernel) (by decide +kernel)
  · exact tG 959 (by decide +kernel) (by decide +kernel)
  · exact tG 961 (by decide +kernel) (by decide +kernel)
  · exact tG 963 (by decide +kernel) (by decide +kernel)
  · exact tG 965 (by decide +kernel) (by decide +kernel)
  · exact tG 967 (by decide +kernel) (by decide +kernel)
  · exact tG 969 (by decide +kernel) (by decide +kernel)
  · exact tG 971 (by decide +kernel) (by decide +kernel)
  · exact tG 973 (by decide +kernel) (by decide +kernel)
  · exact tG 975 (by decide +kernel) (by decide +kernel)
  · exact tG 977 (by decide +kernel) (by decide +kernel)
  · exact tG 979 (by decide +kernel) (by decide +kernel)
  · exact tG 981 (by decide +kernel) (by decide +kernel)
  · exact tG 983 (by decide +kernel) (by decide +kernel)
  · exact tG 985 (by decide +kernel) (by decide +kernel)
  · exact tG 987 (by decide +kernel) (by decide +kernel)
  · exact tG 989 (by decide +kernel) (by decide +kernel)
  · exact tG 991 (by decide +kernel) (by decide +kernel)
  · exact tG 993 (by decide +kernel) (by decide +kernel)
  · exact tG 995 (by decide +kernel) (by decide +kernel)
  · exact tG 997 (by decide +kernel) (by decide +kernel)
  · exact tG 999 (by decide +kernel) (by decide +kernel)
  · exact tG 1001 (by decide +kernel) (by decide +kernel)
end
