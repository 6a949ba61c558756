section
-- ===== PART A: goes FIRST, ahead of the names: the tables' words, and 'selects' of the private methods out of them =====
/-- a private method of a class that the tables say can be made, by its rows of tables_1 -/
def lw_okq (q : MethodName × Nat) : Prop := (q.1.cls ≠ "java/lang/invoke/MethodHandle" ∧ q.1.cls ≠ "java/lang/invoke/VarHandle") ∧ Cond.instantiable q.1.cls q.2 ∈ tables_1 ∧ Cond.privateMethod q.1 ∈ tables_1 ∧ Cond.instanceMethod q.1 ∈ tables_1
theorem lw_p0 : lw_okq (⟨"MothCustoms$Tape", "nextToken", "()V"⟩, 11) := ⟨⟨by decide +kernel, by decide +kernel⟩, List.mem_of_getElem? (i := 23) (by decide +kernel), List.mem_of_getElem? (i := 254) (by decide +kernel), List.mem_of_getElem? (i := 255) (by decide +kernel)⟩
theorem lw_p1 : lw_okq (⟨"MothCustoms$Tape", "readName", "()V"⟩, 11) := ⟨⟨by decide +kernel, by decide +kernel⟩, List.mem_of_getElem? (i := 23) (by decide +kernel), List.mem_of_getElem? (i := 261) (by decide +kernel), List.mem_of_getElem? (i := 262) (by decide +kernel)⟩
theorem lw_p2 : lw_okq (⟨"MothCustoms$Tape", "readNumber", "()V"⟩, 11) := ⟨⟨by decide +kernel, by decide +kernel⟩, List.mem_of_getElem? (i := 23) (by decide +kernel), List.mem_of_getElem? (i := 268) (by decide +kernel), List.mem_of_getElem? (i := 269) (by decide +kernel)⟩
theorem lw_p3 : lw_okq (⟨"MothCustoms$Tape", "refuse", "(II)Z"⟩, 11) := ⟨⟨by decide +kernel, by decide +kernel⟩, List.mem_of_getElem? (i := 23) (by decide +kernel), List.mem_of_getElem? (i := 272) (by decide +kernel), List.mem_of_getElem? (i := 273) (by decide +kernel)⟩
theorem lw_p4 : lw_okq (⟨"MothCustoms$Tape", "tellLine", "(LMothCustoms$Shed;)Z"⟩, 11) := ⟨⟨by decide +kernel, by decide +kernel⟩, List.mem_of_getElem? (i := 23) (by decide +kernel), List.mem_of_getElem? (i := 276) (by decide +kernel), List.mem_of_getElem? (i := 277) (by decide +kernel)⟩
theorem lw_p5 : lw_okq (⟨"MothCustoms$Tape", "lineNamed", "()I"⟩, 11) := ⟨⟨by decide +kernel, by decide +kernel⟩, List.mem_of_getElem? (i := 23) (by decide +kernel), List.mem_of_getElem? (i := 280) (by decide +kernel), List.mem_of_getElem? (i := 281) (by decide +kernel)⟩
theorem lw_p6 : lw_okq (⟨"MothCustoms$Tape", "isName", "(Ljava/lang/String;)Z"⟩, 11) := ⟨⟨by decide +kernel, by decide +kernel⟩, List.mem_of_getElem? (i := 23) (by decide +kernel), List.mem_of_getElem? (i := 285) (by decide +kernel), List.mem_of_getElem? (i := 286) (by decide +kernel)⟩
theorem lw_p7 : lw_okq (⟨"MothCustoms$Tape", "readNumbers", "(ILMothCustoms$Shed;)Z"⟩, 11) := ⟨⟨by decide +kernel, by decide +kernel⟩, List.mem_of_getElem? (i := 23) (by decide +kernel), List.mem_of_getElem? (i := 344) (by decide +kernel), List.mem_of_getElem? (i := 345) (by decide +kernel)⟩
theorem lw_p8 : lw_okq (⟨"MothCustoms$Tape", "take", "(ILMothCustoms$Shed;)V"⟩, 11) := ⟨⟨by decide +kernel, by decide +kernel⟩, List.mem_of_getElem? (i := 23) (by decide +kernel), List.mem_of_getElem? (i := 359) (by decide +kernel), List.mem_of_getElem? (i := 360) (by decide +kernel)⟩
theorem lw_p9 : lw_okq (⟨"MothCustoms$Shed", "eatDown", "(I)V"⟩, 18) := ⟨⟨by decide +kernel, by decide +kernel⟩, List.mem_of_getElem? (i := 68) (by decide +kernel), List.mem_of_getElem? (i := 529) (by decide +kernel), List.mem_of_getElem? (i := 530) (by decide +kernel)⟩
theorem lw_p10 : lw_okq (⟨"MothCustoms", "tryNight", "(I)V"⟩, 8) := ⟨⟨by decide +kernel, by decide +kernel⟩, List.mem_of_getElem? (i := 15) (by decide +kernel), List.mem_of_getElem? (i := 557) (by decide +kernel), List.mem_of_getElem? (i := 558) (by decide +kernel)⟩
theorem lw_p11 : lw_okq (⟨"MothCustoms", "leastBy", "(ZI)I"⟩, 8) := ⟨⟨by decide +kernel, by decide +kernel⟩, List.mem_of_getElem? (i := 15) (by decide +kernel), List.mem_of_getElem? (i := 590) (by decide +kernel), List.mem_of_getElem? (i := 591) (by decide +kernel)⟩
theorem lw_p12 : lw_okq (⟨"MothCustoms", "weight", "(II)J"⟩, 8) := ⟨⟨by decide +kernel, by decide +kernel⟩, List.mem_of_getElem? (i := 15) (by decide +kernel), List.mem_of_getElem? (i := 607) (by decide +kernel), List.mem_of_getElem? (i := 608) (by decide +kernel)⟩
theorem lw_p13 : lw_okq (⟨"MothCustoms", "partOfFraction", "(JI)J"⟩, 8) := ⟨⟨by decide +kernel, by decide +kernel⟩, List.mem_of_getElem? (i := 15) (by decide +kernel), List.mem_of_getElem? (i := 611) (by decide +kernel), List.mem_of_getElem? (i := 612) (by decide +kernel)⟩
theorem lw_p14 : lw_okq (⟨"MothCustomsModel", "firstDraft", "()V"⟩, 25) := ⟨⟨by decide +kernel, by decide +kernel⟩, List.mem_of_getElem? (i := 729) (by decide +kernel), List.mem_of_getElem? (i := 735) (by decide +kernel), List.mem_of_getElem? (i := 736) (by decide +kernel)⟩
theorem lw_p15 : lw_okq (⟨"MothCustomsModel", "keepDraft", "()V"⟩, 25) := ⟨⟨by decide +kernel, by decide +kernel⟩, List.mem_of_getElem? (i := 729) (by decide +kernel), List.mem_of_getElem? (i := 739) (by decide +kernel), List.mem_of_getElem? (i := 740) (by decide +kernel)⟩
def lw_privs_1 : List (MethodName × Nat) := [(⟨"MothCustoms$Tape", "nextToken", "()V"⟩, 11), (⟨"MothCustoms$Tape", "readName", "()V"⟩, 11), (⟨"MothCustoms$Tape", "readNumber", "()V"⟩, 11), (⟨"MothCustoms$Tape", "refuse", "(II)Z"⟩, 11), (⟨"MothCustoms$Tape", "tellLine", "(LMothCustoms$Shed;)Z"⟩, 11), (⟨"MothCustoms$Tape", "lineNamed", "()I"⟩, 11), (⟨"MothCustoms$Tape", "isName", "(Ljava/lang/String;)Z"⟩, 11), (⟨"MothCustoms$Tape", "readNumbers", "(ILMothCustoms$Shed;)Z"⟩, 11), (⟨"MothCustoms$Tape", "take", "(ILMothCustoms$Shed;)V"⟩, 11), (⟨"MothCustoms$Shed", "eatDown", "(I)V"⟩, 18), (⟨"MothCustoms", "tryNight", "(I)V"⟩, 8), (⟨"MothCustoms", "leastBy", "(ZI)I"⟩, 8), (⟨"MothCustoms", "weight", "(II)J"⟩, 8), (⟨"MothCustoms", "partOfFraction", "(JI)J"⟩, 8), (⟨"MothCustomsModel", "firstDraft", "()V"⟩, 25), (⟨"MothCustomsModel", "keepDraft", "()V"⟩, 25)]
theorem lw_r1 : ∀ q ∈ lw_privs_1, lw_okq q := List.forall_mem_cons.mpr ⟨lw_p0, List.forall_mem_cons.mpr ⟨lw_p1, List.forall_mem_cons.mpr ⟨lw_p2, List.forall_mem_cons.mpr ⟨lw_p3, List.forall_mem_cons.mpr ⟨lw_p4, List.forall_mem_cons.mpr ⟨lw_p5, List.forall_mem_cons.mpr ⟨lw_p6, List.forall_mem_cons.mpr ⟨lw_p7, List.forall_mem_cons.mpr ⟨lw_p8, List.forall_mem_cons.mpr ⟨lw_p9, List.forall_mem_cons.mpr ⟨lw_p10, List.forall_mem_cons.mpr ⟨lw_p11, List.forall_mem_cons.mpr ⟨lw_p12, List.forall_mem_cons.mpr ⟨lw_p13, List.forall_mem_cons.mpr ⟨lw_p14, List.forall_mem_cons.mpr ⟨lw_p15, fun _ h => absurd h List.not_mem_nil⟩⟩⟩⟩⟩⟩⟩⟩⟩⟩⟩⟩⟩⟩⟩⟩
theorem lw_p16 : lw_okq (⟨"MothCustomsModel", "next", "()V"⟩, 25) := ⟨⟨by decide +kernel, by decide +kernel⟩, List.mem_of_getElem? (i := 729) (by decide +kernel), List.mem_of_getElem? (i := 836) (by decide +kernel), List.mem_of_getElem? (i := 837) (by decide +kernel)⟩
theorem lw_p17 : lw_okq (⟨"MothCustomsModel", "byteAt", "(I)I"⟩, 25) := ⟨⟨by decide +kernel, by decide +kernel⟩, List.mem_of_getElem? (i := 729) (by decide +kernel), List.mem_of_getElem? (i := 840) (by decide +kernel), List.mem_of_getElem? (i := 841) (by decide +kernel)⟩
theorem lw_p18 : lw_okq (⟨"MothCustomsModel", "needs", "(ZI)V"⟩, 25) := ⟨⟨by decide +kernel, by decide +kernel⟩, List.mem_of_getElem? (i := 729) (by decide +kernel), List.mem_of_getElem? (i := 848) (by decide +kernel), List.mem_of_getElem? (i := 849) (by decide +kernel)⟩
theorem lw_p19 : lw_okq (⟨"MothCustomsModel", "readLine", "()V"⟩, 25) := ⟨⟨by decide +kernel, by decide +kernel⟩, List.mem_of_getElem? (i := 729) (by decide +kernel), List.mem_of_getElem? (i := 852) (by decide +kernel), List.mem_of_getElem? (i := 853) (by decide +kernel)⟩
theorem lw_p20 : lw_okq (⟨"MothCustomsModel", "lineNow", "()I"⟩, 25) := ⟨⟨by decide +kernel, by decide +kernel⟩, List.mem_of_getElem? (i := 729) (by decide +kernel), List.mem_of_getElem? (i := 856) (by decide +kernel), List.mem_of_getElem? (i := 857) (by decide +kernel)⟩
theorem lw_p21 : lw_okq (⟨"MothCustomsModel", "is", "(IIII)Z"⟩, 25) := ⟨⟨by decide +kernel, by decide +kernel⟩, List.mem_of_getElem? (i := 729) (by decide +kernel), List.mem_of_getElem? (i := 860) (by decide +kernel), List.mem_of_getElem? (i := 861) (by decide +kernel)⟩
theorem lw_p22 : lw_okq (⟨"MothCustomsModel", "ends", "(IIII)Z"⟩, 25) := ⟨⟨by decide +kernel, by decide +kernel⟩, List.mem_of_getElem? (i := 729) (by decide +kernel), List.mem_of_getElem? (i := 864) (by decide +kernel), List.mem_of_getElem? (i := 865) (by decide +kernel)⟩
theorem lw_p23 : lw_okq (⟨"MothCustomsModel", "readLineOf", "(I)V"⟩, 25) := ⟨⟨by decide +kernel, by decide +kernel⟩, List.mem_of_getElem? (i := 729) (by decide +kernel), List.mem_of_getElem? (i := 868) (by decide +kernel), List.mem_of_getElem? (i := 869) (by decide +kernel)⟩
theorem lw_p24 : lw_okq (⟨"MothCustomsModel", "readBolt", "()V"⟩, 25) := ⟨⟨by decide +kernel, by decide +kernel⟩, List.mem_of_getElem? (i := 729) (by decide +kernel), List.mem_of_getElem? (i := 872) (by decide +kernel), List.mem_of_getElem? (i := 873) (by decide +kernel)⟩
theorem lw_p25 : lw_okq (⟨"MothCustomsModel", "readNumber", "(II)I"⟩, 25) := ⟨⟨by decide +kernel, by decide +kernel⟩, List.mem_of_getElem? (i := 729) (by decide +kernel), List.mem_of_getElem? (i := 876) (by decide +kernel), List.mem_of_getElem? (i := 877) (by decide +kernel)⟩
theorem lw_p26 : lw_okq (⟨"MothCustomsModel", "looked", "(II)I"⟩, 25) := ⟨⟨by decide +kernel, by decide +kernel⟩, List.mem_of_getElem? (i := 729) (by decide +kernel), List.mem_of_getElem? (i := 880) (by decide +kernel), List.mem_of_getElem? (i := 881) (by decide +kernel)⟩
theorem lw_p27 : lw_okq (⟨"MothCustomsModel", "readCamphor", "()V"⟩, 25) := ⟨⟨by decide +kernel, by decide +kernel⟩, List.mem_of_getElem? (i := 729) (by decide +kernel), List.mem_of_getElem? (i := 887) (by decide +kernel), List.mem_of_getElem? (i := 888) (by decide +kernel)⟩
theorem lw_p28 : lw_okq (⟨"MothCustomsModel", "readMoth", "(I)V"⟩, 25) := ⟨⟨by decide +kernel, by decide +kernel⟩, List.mem_of_getElem? (i := 729) (by decide +kernel), List.mem_of_getElem? (i := 891) (by decide +kernel), List.mem_of_getElem? (i := 892) (by decide +kernel)⟩
theorem lw_p29 : lw_okq (⟨"MothCustomsModel", "starts", "()V"⟩, 25) := ⟨⟨by decide +kernel, by decide +kernel⟩, List.mem_of_getElem? (i := 729) (by decide +kernel), List.mem_of_getElem? (i := 903) (by decide +kernel), List.mem_of_getElem? (i := 904) (by decide +kernel)⟩
theorem lw_p30 : lw_okq (⟨"MothCustomsModel", "of", "(II)I"⟩, 25) := ⟨⟨by decide +kernel, by decide +kernel⟩, List.mem_of_getElem? (i := 729) (by decide +kernel), List.mem_of_getElem? (i := 907) (by decide +kernel), List.mem_of_getElem? (i := 908) (by decide +kernel)⟩
theorem lw_p31 : lw_okq (⟨"MothCustomsModel", "eaten", "()I"⟩, 25) := ⟨⟨by decide +kernel, by decide +kernel⟩, List.mem_of_getElem? (i := 729) (by decide +kernel), List.mem_of_getElem? (i := 911) (by decide +kernel), List.mem_of_getElem? (i := 912) (by decide +kernel)⟩
def lw_privs_2 : List (MethodName × Nat) := [(⟨"MothCustomsModel", "next", "()V"⟩, 25), (⟨"MothCustomsModel", "byteAt", "(I)I"⟩, 25), (⟨"MothCustomsModel", "needs", "(ZI)V"⟩, 25), (⟨"MothCustomsModel", "readLine", "()V"⟩, 25), (⟨"MothCustomsModel", "lineNow", "()I"⟩, 25), (⟨"MothCustomsModel", "is", "(IIII)Z"⟩, 25), (⟨"MothCustomsModel", "ends", "(IIII)Z"⟩, 25), (⟨"MothCustomsModel", "readLineOf", "(I)V"⟩, 25), (⟨"MothCustomsModel", "readBolt", "()V"⟩, 25), (⟨"MothCustomsModel", "readNumber", "(II)I"⟩, 25), (⟨"MothCustomsModel", "looked", "(II)I"⟩, 25), (⟨"MothCustomsModel", "readCamphor", "()V"⟩, 25), (⟨"MothCustomsModel", "readMoth", "(I)V"⟩, 25), (⟨"MothCustomsModel", "starts", "()V"⟩, 25), (⟨"MothCustomsModel", "of", "(II)I"⟩, 25), (⟨"MothCustomsModel", "eaten", "()I"⟩, 25)]
theorem lw_r2 : ∀ q ∈ lw_privs_2, lw_okq q := List.forall_mem_cons.mpr ⟨lw_p16, List.forall_mem_cons.mpr ⟨lw_p17, List.forall_mem_cons.mpr ⟨lw_p18, List.forall_mem_cons.mpr ⟨lw_p19, List.forall_mem_cons.mpr ⟨lw_p20, List.forall_mem_cons.mpr ⟨lw_p21, List.forall_mem_cons.mpr ⟨lw_p22, List.forall_mem_cons.mpr ⟨lw_p23, List.forall_mem_cons.mpr ⟨lw_p24, List.forall_mem_cons.mpr ⟨lw_p25, List.forall_mem_cons.mpr ⟨lw_p26, List.forall_mem_cons.mpr ⟨lw_p27, List.forall_mem_cons.mpr ⟨lw_p28, List.forall_mem_cons.mpr ⟨lw_p29, List.forall_mem_cons.mpr ⟨lw_p30, List.forall_mem_cons.mpr ⟨lw_p31, fun _ h => absurd h List.not_mem_nil⟩⟩⟩⟩⟩⟩⟩⟩⟩⟩⟩⟩⟩⟩⟩⟩
theorem lw_p32 : lw_okq (⟨"MothCustomsModel", "isEaten", "(I)Z"⟩, 25) := ⟨⟨by decide +kernel, by decide +kernel⟩, List.mem_of_getElem? (i := 729) (by decide +kernel), List.mem_of_getElem? (i := 915) (by decide +kernel), List.mem_of_getElem? (i := 916) (by decide +kernel)⟩
theorem lw_p33 : lw_okq (⟨"MothCustomsModel", "isBolt", "(I)Z"⟩, 25) := ⟨⟨by decide +kernel, by decide +kernel⟩, List.mem_of_getElem? (i := 729) (by decide +kernel), List.mem_of_getElem? (i := 923) (by decide +kernel), List.mem_of_getElem? (i := 924) (by decide +kernel)⟩
theorem lw_p34 : lw_okq (⟨"MothCustomsModel", "isMoth", "(I)Z"⟩, 25) := ⟨⟨by decide +kernel, by decide +kernel⟩, List.mem_of_getElem? (i := 729) (by decide +kernel), List.mem_of_getElem? (i := 932) (by decide +kernel), List.mem_of_getElem? (i := 933) (by decide +kernel)⟩
theorem lw_p35 : lw_okq (⟨"MothCustomsModel", "doesLike", "(II)Z"⟩, 25) := ⟨⟨by decide +kernel, by decide +kernel⟩, List.mem_of_getElem? (i := 729) (by decide +kernel), List.mem_of_getElem? (i := 936) (by decide +kernel), List.mem_of_getElem? (i := 937) (by decide +kernel)⟩
theorem lw_p36 : lw_okq (⟨"MothCustomsModel", "mothOf", "(II)I"⟩, 25) := ⟨⟨by decide +kernel, by decide +kernel⟩, List.mem_of_getElem? (i := 729) (by decide +kernel), List.mem_of_getElem? (i := 940) (by decide +kernel), List.mem_of_getElem? (i := 941) (by decide +kernel)⟩
theorem lw_p37 : lw_okq (⟨"MothCustomsModel", "appetite", "(I)I"⟩, 25) := ⟨⟨by decide +kernel, by decide +kernel⟩, List.mem_of_getElem? (i := 729) (by decide +kernel), List.mem_of_getElem? (i := 945) (by decide +kernel), List.mem_of_getElem? (i := 946) (by decide +kernel)⟩
theorem lw_p38 : lw_okq (⟨"MothCustomsModel", "liesIn", "(I)I"⟩, 25) := ⟨⟨by decide +kernel, by decide +kernel⟩, List.mem_of_getElem? (i := 729) (by decide +kernel), List.mem_of_getElem? (i := 957) (by decide +kernel), List.mem_of_getElem? (i := 958) (by decide +kernel)⟩
theorem lw_p39 : lw_okq (⟨"MothCustomsModel", "dutyOf", "(I)I"⟩, 25) := ⟨⟨by decide +kernel, by decide +kernel⟩, List.mem_of_getElem? (i := 729) (by decide +kernel), List.mem_of_getElem? (i := 961) (by decide +kernel), List.mem_of_getElem? (i := 962) (by decide +kernel)⟩
theorem lw_p40 : lw_okq (⟨"MothCustomsModel", "boltAt", "(II)I"⟩, 25) := ⟨⟨by decide +kernel, by decide +kernel⟩, List.mem_of_getElem? (i := 729) (by decide +kernel), List.mem_of_getElem? (i := 965) (by decide +kernel), List.mem_of_getElem? (i := 966) (by decide +kernel)⟩
theorem lw_p41 : lw_okq (⟨"MothCustomsModel", "folded", "(IIZ)I"⟩, 25) := ⟨⟨by decide +kernel, by decide +kernel⟩, List.mem_of_getElem? (i := 729) (by decide +kernel), List.mem_of_getElem? (i := 974) (by decide +kernel), List.mem_of_getElem? (i := 975) (by decide +kernel)⟩
theorem lw_p42 : lw_okq (⟨"MothCustomsModel", "folds", "(IIZ)V"⟩, 25) := ⟨⟨by decide +kernel, by decide +kernel⟩, List.mem_of_getElem? (i := 729) (by decide +kernel), List.mem_of_getElem? (i := 978) (by decide +kernel), List.mem_of_getElem? (i := 979) (by decide +kernel)⟩
theorem lw_p43 : lw_okq (⟨"MothCustomsModel", "becomesOf", "(III)V"⟩, 25) := ⟨⟨by decide +kernel, by decide +kernel⟩, List.mem_of_getElem? (i := 729) (by decide +kernel), List.mem_of_getElem? (i := 982) (by decide +kernel), List.mem_of_getElem? (i := 983) (by decide +kernel)⟩
theorem lw_p44 : lw_okq (⟨"MothCustomsModel", "settles", "()V"⟩, 25) := ⟨⟨by decide +kernel, by decide +kernel⟩, List.mem_of_getElem? (i := 729) (by decide +kernel), List.mem_of_getElem? (i := 986) (by decide +kernel), List.mem_of_getElem? (i := 987) (by decide +kernel)⟩
theorem lw_p45 : lw_okq (⟨"MothCustomsModel", "becomes", "(II)I"⟩, 25) := ⟨⟨by decide +kernel, by decide +kernel⟩, List.mem_of_getElem? (i := 729) (by decide +kernel), List.mem_of_getElem? (i := 998) (by decide +kernel), List.mem_of_getElem? (i := 999) (by decide +kernel)⟩
theorem lw_p46 : lw_okq (⟨"MothCustomsModel", "nightsGo", "(I)V"⟩, 25) := ⟨⟨by decide +kernel, by decide +kernel⟩, List.mem_of_getElem? (i := 729) (by decide +kernel), List.mem_of_getElem? (i := 1035) (by decide +kernel), List.mem_of_getElem? (i := 1036) (by decide +kernel)⟩
theorem lw_p47 : lw_okq (⟨"MothCustomsModel", "everyMoth", "()I"⟩, 25) := ⟨⟨by decide +kernel, by decide +kernel⟩, List.mem_of_getElem? (i := 729) (by decide +kernel), List.mem_of_getElem? (i := 1039) (by decide +kernel), List.mem_of_getElem? (i := 1040) (by decide +kernel)⟩
def lw_privs_3 : List (MethodName × Nat) := [(⟨"MothCustomsModel", "isEaten", "(I)Z"⟩, 25), (⟨"MothCustomsModel", "isBolt", "(I)Z"⟩, 25), (⟨"MothCustomsModel", "isMoth", "(I)Z"⟩, 25), (⟨"MothCustomsModel", "doesLike", "(II)Z"⟩, 25), (⟨"MothCustomsModel", "mothOf", "(II)I"⟩, 25), (⟨"MothCustomsModel", "appetite", "(I)I"⟩, 25), (⟨"MothCustomsModel", "liesIn", "(I)I"⟩, 25), (⟨"MothCustomsModel", "dutyOf", "(I)I"⟩, 25), (⟨"MothCustomsModel", "boltAt", "(II)I"⟩, 25), (⟨"MothCustomsModel", "folded", "(IIZ)I"⟩, 25), (⟨"MothCustomsModel", "folds", "(IIZ)V"⟩, 25), (⟨"MothCustomsModel", "becomesOf", "(III)V"⟩, 25), (⟨"MothCustomsModel", "settles", "()V"⟩, 25), (⟨"MothCustomsModel", "becomes", "(II)I"⟩, 25), (⟨"MothCustomsModel", "nightsGo", "(I)V"⟩, 25), (⟨"MothCustomsModel", "everyMoth", "()I"⟩, 25)]
theorem lw_r3 : ∀ q ∈ lw_privs_3, lw_okq q := List.forall_mem_cons.mpr ⟨lw_p32, List.forall_mem_cons.mpr ⟨lw_p33, List.forall_mem_cons.mpr ⟨lw_p34, List.forall_mem_cons.mpr ⟨lw_p35, List.forall_mem_cons.mpr ⟨lw_p36, List.forall_mem_cons.mpr ⟨lw_p37, List.forall_mem_cons.mpr ⟨lw_p38, List.forall_mem_cons.mpr ⟨lw_p39, List.forall_mem_cons.mpr ⟨lw_p40, List.forall_mem_cons.mpr ⟨lw_p41, List.forall_mem_cons.mpr ⟨lw_p42, List.forall_mem_cons.mpr ⟨lw_p43, List.forall_mem_cons.mpr ⟨lw_p44, List.forall_mem_cons.mpr ⟨lw_p45, List.forall_mem_cons.mpr ⟨lw_p46, List.forall_mem_cons.mpr ⟨lw_p47, fun _ h => absurd h List.not_mem_nil⟩⟩⟩⟩⟩⟩⟩⟩⟩⟩⟩⟩⟩⟩⟩⟩
theorem lw_p48 : lw_okq (⟨"MothCustomsModel", "nightGoes", "(I)V"⟩, 25) := ⟨⟨by decide +kernel, by decide +kernel⟩, List.mem_of_getElem? (i := 729) (by decide +kernel), List.mem_of_getElem? (i := 1043) (by decide +kernel), List.mem_of_getElem? (i := 1044) (by decide +kernel)⟩
theorem lw_p49 : lw_okq (⟨"MothCustomsModel", "eatsNow", "(I)I"⟩, 25) := ⟨⟨by decide +kernel, by decide +kernel⟩, List.mem_of_getElem? (i := 729) (by decide +kernel), List.mem_of_getElem? (i := 1047) (by decide +kernel), List.mem_of_getElem? (i := 1048) (by decide +kernel)⟩
theorem lw_p50 : lw_okq (⟨"MothCustomsModel", "dutyAll", "()I"⟩, 25) := ⟨⟨by decide +kernel, by decide +kernel⟩, List.mem_of_getElem? (i := 729) (by decide +kernel), List.mem_of_getElem? (i := 1051) (by decide +kernel), List.mem_of_getElem? (i := 1052) (by decide +kernel)⟩
theorem lw_p51 : lw_okq (⟨"MothCustomsModel", "allHoles", "()I"⟩, 25) := ⟨⟨by decide +kernel, by decide +kernel⟩, List.mem_of_getElem? (i := 729) (by decide +kernel), List.mem_of_getElem? (i := 1059) (by decide +kernel), List.mem_of_getElem? (i := 1060) (by decide +kernel)⟩
theorem lw_p52 : lw_okq (⟨"MothCustomsModel", "rows", "()I"⟩, 25) := ⟨⟨by decide +kernel, by decide +kernel⟩, List.mem_of_getElem? (i := 729) (by decide +kernel), List.mem_of_getElem? (i := 1080) (by decide +kernel), List.mem_of_getElem? (i := 1081) (by decide +kernel)⟩
theorem lw_p53 : lw_okq (⟨"MothCustomsModel", "isRow", "(I)Z"⟩, 25) := ⟨⟨by decide +kernel, by decide +kernel⟩, List.mem_of_getElem? (i := 729) (by decide +kernel), List.mem_of_getElem? (i := 1084) (by decide +kernel), List.mem_of_getElem? (i := 1085) (by decide +kernel)⟩
theorem lw_p54 : lw_okq (⟨"MothCustomsModel", "cutsAt", "(II)V"⟩, 25) := ⟨⟨by decide +kernel, by decide +kernel⟩, List.mem_of_getElem? (i := 729) (by decide +kernel), List.mem_of_getElem? (i := 1088) (by decide +kernel), List.mem_of_getElem? (i := 1089) (by decide +kernel)⟩
theorem lw_p55 : lw_okq (⟨"MothCustomsModel", "placesNow", "()I"⟩, 25) := ⟨⟨by decide +kernel, by decide +kernel⟩, List.mem_of_getElem? (i := 729) (by decide +kernel), List.mem_of_getElem? (i := 1092) (by decide +kernel), List.mem_of_getElem? (i := 1093) (by decide +kernel)⟩
theorem lw_p56 : lw_okq (⟨"MothCustomsModel", "dutyNext", "()I"⟩, 25) := ⟨⟨by decide +kernel, by decide +kernel⟩, List.mem_of_getElem? (i := 729) (by decide +kernel), List.mem_of_getElem? (i := 1096) (by decide +kernel), List.mem_of_getElem? (i := 1097) (by decide +kernel)⟩
theorem lw_p57 : lw_okq (⟨"MothCustomsModel", "placeIn", "(II)I"⟩, 25) := ⟨⟨by decide +kernel, by decide +kernel⟩, List.mem_of_getElem? (i := 729) (by decide +kernel), List.mem_of_getElem? (i := 1100) (by decide +kernel), List.mem_of_getElem? (i := 1101) (by decide +kernel)⟩
theorem lw_p58 : lw_okq (⟨"MothCustomsModel", "waysOf", "(II)J"⟩, 25) := ⟨⟨by decide +kernel, by decide +kernel⟩, List.mem_of_getElem? (i := 729) (by decide +kernel), List.mem_of_getElem? (i := 1121) (by decide +kernel), List.mem_of_getElem? (i := 1122) (by decide +kernel)⟩
theorem lw_p59 : lw_okq (⟨"MothCustomsModel", "allWays", "()J"⟩, 25) := ⟨⟨by decide +kernel, by decide +kernel⟩, List.mem_of_getElem? (i := 729) (by decide +kernel), List.mem_of_getElem? (i := 1125) (by decide +kernel), List.mem_of_getElem? (i := 1126) (by decide +kernel)⟩
theorem lw_p60 : lw_okq (⟨"MothCustomsModel", "isSo", "(I)Z"⟩, 25) := ⟨⟨by decide +kernel, by decide +kernel⟩, List.mem_of_getElem? (i := 729) (by decide +kernel), List.mem_of_getElem? (i := 1151) (by decide +kernel), List.mem_of_getElem? (i := 1152) (by decide +kernel)⟩
theorem lw_p61 : lw_okq (⟨"MothCustomsModel", "liesBy", "(I)V"⟩, 25) := ⟨⟨by decide +kernel, by decide +kernel⟩, List.mem_of_getElem? (i := 729) (by decide +kernel), List.mem_of_getElem? (i := 1167) (by decide +kernel), List.mem_of_getElem? (i := 1168) (by decide +kernel)⟩
theorem lw_p62 : lw_okq (⟨"MothCustomsModel", "copies", "(II)V"⟩, 25) := ⟨⟨by decide +kernel, by decide +kernel⟩, List.mem_of_getElem? (i := 729) (by decide +kernel), List.mem_of_getElem? (i := 1180) (by decide +kernel), List.mem_of_getElem? (i := 1181) (by decide +kernel)⟩
def lw_privs_4 : List (MethodName × Nat) := [(⟨"MothCustomsModel", "nightGoes", "(I)V"⟩, 25), (⟨"MothCustomsModel", "eatsNow", "(I)I"⟩, 25), (⟨"MothCustomsModel", "dutyAll", "()I"⟩, 25), (⟨"MothCustomsModel", "allHoles", "()I"⟩, 25), (⟨"MothCustomsModel", "rows", "()I"⟩, 25), (⟨"MothCustomsModel", "isRow", "(I)Z"⟩, 25), (⟨"MothCustomsModel", "cutsAt", "(II)V"⟩, 25), (⟨"MothCustomsModel", "placesNow", "()I"⟩, 25), (⟨"MothCustomsModel", "dutyNext", "()I"⟩, 25), (⟨"MothCustomsModel", "placeIn", "(II)I"⟩, 25), (⟨"MothCustomsModel", "waysOf", "(II)J"⟩, 25), (⟨"MothCustomsModel", "allWays", "()J"⟩, 25), (⟨"MothCustomsModel", "isSo", "(I)Z"⟩, 25), (⟨"MothCustomsModel", "liesBy", "(I)V"⟩, 25), (⟨"MothCustomsModel", "copies", "(II)V"⟩, 25)]
theorem lw_r4 : ∀ q ∈ lw_privs_4, lw_okq q := List.forall_mem_cons.mpr ⟨lw_p48, List.forall_mem_cons.mpr ⟨lw_p49, List.forall_mem_cons.mpr ⟨lw_p50, List.forall_mem_cons.mpr ⟨lw_p51, List.forall_mem_cons.mpr ⟨lw_p52, List.forall_mem_cons.mpr ⟨lw_p53, List.forall_mem_cons.mpr ⟨lw_p54, List.forall_mem_cons.mpr ⟨lw_p55, List.forall_mem_cons.mpr ⟨lw_p56, List.forall_mem_cons.mpr ⟨lw_p57, List.forall_mem_cons.mpr ⟨lw_p58, List.forall_mem_cons.mpr ⟨lw_p59, List.forall_mem_cons.mpr ⟨lw_p60, List.forall_mem_cons.mpr ⟨lw_p61, List.forall_mem_cons.mpr ⟨lw_p62, fun _ h => absurd h List.not_mem_nil⟩⟩⟩⟩⟩⟩⟩⟩⟩⟩⟩⟩⟩⟩⟩
def lw_privs : List (MethodName × Nat) := lw_privs_1 ++ (lw_privs_2 ++ (lw_privs_3 ++ (lw_privs_4)))
def lw_tbl : List Cond := k2_sels lw_privs ++ tables_1
theorem lw_privs_ok : ∀ q ∈ lw_privs, lw_okq q := by
  show ∀ q ∈ lw_privs_1 ++ (lw_privs_2 ++ (lw_privs_3 ++ (lw_privs_4))), lw_okq q
  exact List.forall_mem_append.mpr ⟨lw_r1, List.forall_mem_append.mpr ⟨lw_r2, List.forall_mem_append.mpr ⟨lw_r3, lw_r4⟩⟩⟩
end
section
def RX0 : String := "MothCustoms$Search"
def TX0 : u_T := fun k => match k with
  | 0 => ("MothCustoms$Search", "tried", "LMothCustoms$Shed;", true)
  | 1 => ("MothCustoms$Search", "codes", "[I", true)
  | 2 => ("MothCustoms$Search", "bestCodes", "[I", true)
  | 3 => ("MothCustoms$Search", "least", "I", false)
  | 4 => ("MothCustoms$Search", "taken", "I", false)
  | _ => ("MothCustoms$Search", "tops", "I", false)
def tyX0 : Nat → FieldType := fun k => match k with
  | 0 => .object "MothCustoms$Shed"
  | 1 => .array .int
  | 2 => .array .int
  | 3 => .int
  | 4 => .int
  | _ => .int
theorem nmX0 : ∀ a, a < 6 → ∀ b, b < 6 → a ≠ b → (TX0 a).2.1 ≠ (TX0 b).2.1 := by decide +kernel
theorem tyX0_ok : ∀ k, k < 6 → parseFieldDescriptor (TX0 k).2.2.1 = some (tyX0 k) := by decide +kernel
abbrev cX0_init : ByteArray := prog_2_method_1_code
def yX0_init : MethodName := ⟨RX0, "<init>", "()V"⟩
abbrev cX0_findBest : ByteArray := prog_2_method_2_code
def yX0_findBest : MethodName := ⟨RX0, "findBest", "(LMothCustoms$Shed;)V"⟩
abbrev cX0_placeFrom : ByteArray := prog_2_method_3_code
def yX0_placeFrom : MethodName := ⟨RX0, "placeFrom", "(LMothCustoms$Search;LMothCustoms$Shed;II)V"⟩
abbrev cX0_weighFolding : ByteArray := prog_2_method_4_code
def yX0_weighFolding : MethodName := ⟨RX0, "weighFolding", "(LMothCustoms$Search;LMothCustoms$Shed;)V"⟩
abbrev cX0_findTops : ByteArray := prog_2_method_5_code
def yX0_findTops : MethodName := ⟨RX0, "findTops", "(LMothCustoms$Shed;I)I"⟩
abbrev cX0_orderFrom : ByteArray := prog_2_method_6_code
def yX0_orderFrom : MethodName := ⟨RX0, "orderFrom", "(LMothCustoms$Search;LMothCustoms$Shed;II)V"⟩
abbrev cX0_exchange : ByteArray := prog_2_method_7_code
def yX0_exchange : MethodName := ⟨RX0, "exchange", "([III)V"⟩
def RX1 : String := "MothCustoms$Shed"
def TX1 : u_T := fun k => match k with
  | 0 => ("MothCustoms$Shed", "bolts", "I", false)
  | 1 => ("MothCustoms$Shed", "dye", "[I", true)
  | 2 => ("MothCustoms$Shed", "wool", "[I", true)
  | 3 => ("MothCustoms$Shed", "holes", "[I", true)
  | 4 => ("MothCustoms$Shed", "camphor", "I", false)
  | 5 => ("MothCustoms$Shed", "lying", "[I", true)
  | 6 => ("MothCustoms$Shed", "height", "[I", true)
  | 7 => ("MothCustoms$Shed", "moths", "I", false)
  | 8 => ("MothCustoms$Shed", "kind", "[I", true)
  | 9 => ("MothCustoms$Shed", "taste", "[I", true)
  | 10 => ("MothCustoms$Shed", "hunger", "[I", true)
  | 11 => ("MothCustoms$Shed", "at", "[I", true)
  | 12 => ("MothCustoms$Shed", "moon", "I", false)
  | 13 => ("MothCustoms$Shed", "rate", "I", false)
  | 14 => ("MothCustoms$Shed", "night", "I", false)
  | 15 => ("MothCustoms$Shed", "seen", "I", false)
  | 16 => ("MothCustoms$Shed", "seenBolt", "[I", true)
  | _ => ("MothCustoms$Shed", "seenHoles", "[I", true)
def tyX1 : Nat → FieldType := fun k => match k with
  | 0 => .int
  | 1 => .array .int
  | 2 => .array .int
  | 3 => .array .int
  | 4 => .int
  | 5 => .array .int
  | 6 => .array .int
  | 7 => .int
  | 8 => .array .int
  | 9 => .array .int
  | 10 => .array .int
  | 11 => .array .int
  | 12 => .int
  | 13 => .int
  | 14 => .int
  | 15 => .int
  | 16 => .array .int
  | _ => .array .int
theorem nmX1 : ∀ a, a < 18 → ∀ b, b < 18 → a ≠ b → (TX1 a).2.1 ≠ (TX1 b).2.1 := by decide +kernel
theorem tyX1_ok : ∀ k, k < 18 → parseFieldDescriptor (TX1 k).2.2.1 = some (tyX1 k) := by decide +kernel
abbrev cX1_init : ByteArray := prog_3_method_1_code
def yX1_init : MethodName := ⟨RX1, "<init>", "()V"⟩
abbrev cX1_makeEmpty : ByteArray := prog_3_method_2_code
def yX1_makeEmpty : MethodName := ⟨RX1, "makeEmpty", "()V"⟩
abbrev cX1_copyFrom : ByteArray := prog_3_method_3_code
def yX1_copyFrom : MethodName := ⟨RX1, "copyFrom", "(LMothCustoms$Shed;)V"⟩
abbrev cX1_copyHolesFrom : ByteArray := prog_3_method_4_code
def yX1_copyHolesFrom : MethodName := ⟨RX1, "copyHolesFrom", "(LMothCustoms$Shed;)V"⟩
abbrev cX1_copyLyingFrom : ByteArray := prog_3_method_5_code
def yX1_copyLyingFrom : MethodName := ⟨RX1, "copyLyingFrom", "(LMothCustoms$Shed;)V"⟩
abbrev cX1_hasBolt : ByteArray := prog_3_method_6_code
def yX1_hasBolt : MethodName := ⟨RX1, "hasBolt", "(I)Z"⟩
abbrev cX1_hasMoth : ByteArray := prog_3_method_7_code
def yX1_hasMoth : MethodName := ⟨RX1, "hasMoth", "(I)Z"⟩
abbrev cX1_hasCamphor : ByteArray := prog_3_method_8_code
def yX1_hasCamphor : MethodName := ⟨RX1, "hasCamphor", "(I)Z"⟩
abbrev cX1_addBolt : ByteArray := prog_3_method_9_code
def yX1_addBolt : MethodName := ⟨RX1, "addBolt", "(III)V"⟩
abbrev cX1_addMoth : ByteArray := prog_3_method_10_code
def yX1_addMoth : MethodName := ⟨RX1, "addMoth", "(IIII)V"⟩
abbrev cX1_spotOf : ByteArray := prog_3_method_11_code
def yX1_spotOf : MethodName := ⟨RX1, "spotOf", "(I)I"⟩
abbrev cX1_baleOf : ByteArray := prog_3_method_12_code
def yX1_baleOf : MethodName := ⟨RX1, "baleOf", "(I)I"⟩
abbrev cX1_layerOf : ByteArray := prog_3_method_13_code
def yX1_layerOf : MethodName := ⟨RX1, "layerOf", "(I)I"⟩
abbrev cX1_takeOut : ByteArray := prog_3_method_14_code
def yX1_takeOut : MethodName := ⟨RX1, "takeOut", "(I)V"⟩
abbrev cX1_putBelow : ByteArray := prog_3_method_15_code
def yX1_putBelow : MethodName := ⟨RX1, "putBelow", "(II)V"⟩
abbrev cX1_putOnTop : ByteArray := prog_3_method_16_code
def yX1_putOnTop : MethodName := ⟨RX1, "putOnTop", "(II)V"⟩
abbrev cX1_trait : ByteArray := prog_3_method_17_code
def yX1_trait : MethodName := ⟨RX1, "trait", "(II)I"⟩
abbrev cX1_setTrait : ByteArray := prog_3_method_18_code
def yX1_setTrait : MethodName := ⟨RX1, "setTrait", "(III)V"⟩
abbrev cX1_appetite : ByteArray := prog_3_method_19_code
def yX1_appetite : MethodName := ⟨RX1, "appetite", "(I)I"⟩
abbrev cX1_likes : ByteArray := prog_3_method_20_code
def yX1_likes : MethodName := ⟨RX1, "likes", "(II)Z"⟩
abbrev cX1_liked : ByteArray := prog_3_method_21_code
def yX1_liked : MethodName := ⟨RX1, "liked", "(I)I"⟩
abbrev cX1_passNight : ByteArray := prog_3_method_22_code
def yX1_passNight : MethodName := ⟨RX1, "passNight", "()V"⟩
abbrev cX1_letLoose : ByteArray := prog_3_method_23_code
def yX1_letLoose : MethodName := ⟨RX1, "letLoose", "(I)V"⟩
abbrev cX1_eatDown : ByteArray := prog_3_method_24_code
def yX1_eatDown : MethodName := ⟨RX1, "eatDown", "(I)V"⟩
abbrev cX1_dutyOf : ByteArray := prog_3_method_25_code
def yX1_dutyOf : MethodName := ⟨RX1, "dutyOf", "(I)I"⟩
abbrev cX1_dutyOfAll : ByteArray := prog_3_method_26_code
def yX1_dutyOfAll : MethodName := ⟨RX1, "dutyOfAll", "()I"⟩
abbrev cX1_holesInAll : ByteArray := prog_3_method_27_code
def yX1_holesInAll : MethodName := ⟨RX1, "holesInAll", "()I"⟩
abbrev cX1_isEatenUp : ByteArray := prog_3_method_28_code
def yX1_isEatenUp : MethodName := ⟨RX1, "isEatenUp", "(I)Z"⟩
abbrev cX1_eatenUp : ByteArray := prog_3_method_29_code
def yX1_eatenUp : MethodName := ⟨RX1, "eatenUp", "()I"⟩
abbrev cX1_isAsSeen : ByteArray := prog_3_method_30_code
def yX1_isAsSeen : MethodName := ⟨RX1, "isAsSeen", "(I)Z"⟩
def RX2 : String := "MothCustoms$Sheet"
def TX2 : u_T := fun k => match k with
  | 0 => ("MothCustoms$Sheet", "there", "Z", false)
  | 1 => ("MothCustoms$Sheet", "lane", "I", false)
  | 2 => ("MothCustoms$Sheet", "size", "I", false)
  | _ => ("MothCustoms$Sheet", "cells", "[I", true)
def tyX2 : Nat → FieldType := fun k => match k with
  | 0 => .boolean
  | 1 => .int
  | 2 => .int
  | _ => .array .int
theorem nmX2 : ∀ a, a < 4 → ∀ b, b < 4 → a ≠ b → (TX2 a).2.1 ≠ (TX2 b).2.1 := by decide +kernel
theorem tyX2_ok : ∀ k, k < 4 → parseFieldDescriptor (TX2 k).2.2.1 = some (tyX2 k) := by decide +kernel
abbrev cX2_init : ByteArray := prog_4_method_1_code
def yX2_init : MethodName := ⟨RX2, "<init>", "()V"⟩
abbrev cX2_makeNew : ByteArray := prog_4_method_2_code
def yX2_makeNew : MethodName := ⟨RX2, "makeNew", "(II)V"⟩
abbrev cX2_hasCell : ByteArray := prog_4_method_3_code
def yX2_hasCell : MethodName := ⟨RX2, "hasCell", "(I)Z"⟩
abbrev cX2_setCell : ByteArray := prog_4_method_4_code
def yX2_setCell : MethodName := ⟨RX2, "setCell", "(II)V"⟩
abbrev cX2_faultAs : ByteArray := prog_4_method_5_code
def yX2_faultAs : MethodName := ⟨RX2, "faultAs", "(I)I"⟩
abbrev cX2_wholePairs : ByteArray := prog_4_method_6_code
def yX2_wholePairs : MethodName := ⟨RX2, "wholePairs", "(II)I"⟩
def RX3 : String := "MothCustoms$Tape"
def TX3 : u_T := fun k => match k with
  | 0 => ("MothCustoms$Tape", "bytes", "[I", true)
  | 1 => ("MothCustoms$Tape", "length", "I", false)
  | 2 => ("MothCustoms$Tape", "fault", "I", false)
  | 3 => ("MothCustoms$Tape", "faultPlace", "I", false)
  | 4 => ("MothCustoms$Tape", "numbers", "[I", true)
  | 5 => ("MothCustoms$Tape", "place", "I", false)
  | 6 => ("MothCustoms$Tape", "token", "I", false)
  | 7 => ("MothCustoms$Tape", "start", "I", false)
  | 8 => ("MothCustoms$Tape", "value", "I", false)
  | 9 => ("MothCustoms$Tape", "moonTold", "Z", false)
  | _ => ("MothCustoms$Tape", "rateTold", "Z", false)
def tyX3 : Nat → FieldType := fun k => match k with
  | 0 => .array .int
  | 1 => .int
  | 2 => .int
  | 3 => .int
  | 4 => .array .int
  | 5 => .int
  | 6 => .int
  | 7 => .int
  | 8 => .int
  | 9 => .boolean
  | _ => .boolean
theorem nmX3 : ∀ a, a < 11 → ∀ b, b < 11 → a ≠ b → (TX3 a).2.1 ≠ (TX3 b).2.1 := by decide +kernel
theorem tyX3_ok : ∀ k, k < 11 → parseFieldDescriptor (TX3 k).2.2.1 = some (tyX3 k) := by decide +kernel
abbrev cX3_init : ByteArray := prog_5_method_1_code
def yX3_init : MethodName := ⟨RX3, "<init>", "()V"⟩
abbrev cX3_tellInto : ByteArray := prog_5_method_2_code
def yX3_tellInto : MethodName := ⟨RX3, "tellInto", "(LMothCustoms$Shed;)I"⟩
abbrev cX3_tellLine : ByteArray := prog_5_method_3_code
def yX3_tellLine : MethodName := ⟨RX3, "tellLine", "(LMothCustoms$Shed;)Z"⟩
abbrev cX3_readNumbers : ByteArray := prog_5_method_4_code
def yX3_readNumbers : MethodName := ⟨RX3, "readNumbers", "(ILMothCustoms$Shed;)Z"⟩
abbrev cX3_mostOfNumber : ByteArray := prog_5_method_5_code
def yX3_mostOfNumber : MethodName := ⟨RX3, "mostOfNumber", "(II)I"⟩
abbrev cX3_take : ByteArray := prog_5_method_6_code
def yX3_take : MethodName := ⟨RX3, "take", "(ILMothCustoms$Shed;)V"⟩
abbrev cX3_lineNamed : ByteArray := prog_5_method_7_code
def yX3_lineNamed : MethodName := ⟨RX3, "lineNamed", "()I"⟩
abbrev cX3_isName : ByteArray := prog_5_method_8_code
def yX3_isName : MethodName := ⟨RX3, "isName", "(Ljava/lang/String;)Z"⟩
abbrev cX3_nextToken : ByteArray := prog_5_method_9_code
def yX3_nextToken : MethodName := ⟨RX3, "nextToken", "()V"⟩
abbrev cX3_readName : ByteArray := prog_5_method_10_code
def yX3_readName : MethodName := ⟨RX3, "readName", "()V"⟩
abbrev cX3_readNumber : ByteArray := prog_5_method_11_code
def yX3_readNumber : MethodName := ⟨RX3, "readNumber", "()V"⟩
abbrev cX3_isLetter : ByteArray := prog_5_method_12_code
def yX3_isLetter : MethodName := ⟨RX3, "isLetter", "(I)Z"⟩
abbrev cX3_isFigure : ByteArray := prog_5_method_13_code
def yX3_isFigure : MethodName := ⟨RX3, "isFigure", "(I)Z"⟩
abbrev cX3_refuse : ByteArray := prog_5_method_14_code
def yX3_refuse : MethodName := ⟨RX3, "refuse", "(II)Z"⟩
def RX4 : String := "MothCustoms"
def TX4 : u_T := fun k => match k with
  | 0 => ("MothCustoms", "tape", "LMothCustoms$Tape;", true)
  | 1 => ("MothCustoms", "now", "LMothCustoms$Shed;", true)
  | 2 => ("MothCustoms", "trial", "LMothCustoms$Shed;", true)
  | 3 => ("MothCustoms", "images", "[LMothCustoms$Shed;", true)
  | 4 => ("MothCustoms", "sheets", "[LMothCustoms$Sheet;", true)
  | 5 => ("MothCustoms", "search", "LMothCustoms$Search;", true)
  | 6 => ("MothCustoms", "kept", "I", false)
  | _ => ("MothCustoms", "torn", "I", false)
def tyX4 : Nat → FieldType := fun k => match k with
  | 0 => .object "MothCustoms$Tape"
  | 1 => .object "MothCustoms$Shed"
  | 2 => .object "MothCustoms$Shed"
  | 3 => .array (.object "MothCustoms$Shed")
  | 4 => .array (.object "MothCustoms$Sheet")
  | 5 => .object "MothCustoms$Search"
  | 6 => .int
  | _ => .int
theorem nmX4 : ∀ a, a < 8 → ∀ b, b < 8 → a ≠ b → (TX4 a).2.1 ≠ (TX4 b).2.1 := by decide +kernel
theorem tyX4_ok : ∀ k, k < 8 → parseFieldDescriptor (TX4 k).2.2.1 = some (tyX4 k) := by decide +kernel
abbrev cX4_init : ByteArray := prog_1_method_1_code
def yX4_init : MethodName := ⟨RX4, "<init>", "()V"⟩
abbrev cX4_feed : ByteArray := prog_1_method_2_code
def yX4_feed : MethodName := ⟨RX4, "feed", "(I)I"⟩
abbrev cX4_end : ByteArray := prog_1_method_3_code
def yX4_end : MethodName := ⟨RX4, "end", "(I)I"⟩
abbrev cX4_text : ByteArray := prog_1_method_4_code
def yX4_text : MethodName := ⟨RX4, "text", "()I"⟩
abbrev cX4_fault : ByteArray := prog_1_method_5_code
def yX4_fault : MethodName := ⟨RX4, "fault", "()I"⟩
abbrev cX4_rule : ByteArray := prog_1_method_6_code
def yX4_rule : MethodName := ⟨RX4, "rule", "(I)I"⟩
abbrev cX4_bolt : ByteArray := prog_1_method_7_code
def yX4_bolt : MethodName := ⟨RX4, "bolt", "(II)I"⟩
abbrev cX4_moth : ByteArray := prog_1_method_8_code
def yX4_moth : MethodName := ⟨RX4, "moth", "(II)I"⟩
abbrev cX4_bale : ByteArray := prog_1_method_9_code
def yX4_bale : MethodName := ⟨RX4, "bale", "(II)I"⟩
abbrev cX4_fold : ByteArray := prog_1_method_10_code
def yX4_fold : MethodName := ⟨RX4, "fold", "(II)I"⟩
abbrev cX4_under : ByteArray := prog_1_method_11_code
def yX4_under : MethodName := ⟨RX4, "under", "(II)I"⟩
abbrev cX4_swap : ByteArray := prog_1_method_12_code
def yX4_swap : MethodName := ⟨RX4, "swap", "(II)I"⟩
abbrev cX4_camphor : ByteArray := prog_1_method_13_code
def yX4_camphor : MethodName := ⟨RX4, "camphor", "(IZ)I"⟩
abbrev cX4_patch : ByteArray := prog_1_method_14_code
def yX4_patch : MethodName := ⟨RX4, "patch", "(II)I"⟩
abbrev cX4_prick : ByteArray := prog_1_method_15_code
def yX4_prick : MethodName := ⟨RX4, "prick", "(I)I"⟩
abbrev cX4_alter : ByteArray := prog_1_method_16_code
def yX4_alter : MethodName := ⟨RX4, "alter", "(III)I"⟩
abbrev cX4_set : ByteArray := prog_1_method_17_code
def yX4_set : MethodName := ⟨RX4, "set", "(II)I"⟩
abbrev cX4_go : ByteArray := prog_1_method_18_code
def yX4_go : MethodName := ⟨RX4, "go", "(I)I"⟩
abbrev cX4_ahead : ByteArray := prog_1_method_19_code
def yX4_ahead : MethodName := ⟨RX4, "ahead", "(II)I"⟩
abbrev cX4_when : ByteArray := prog_1_method_20_code
def yX4_when : MethodName := ⟨RX4, "when", "(I)I"⟩
abbrev cX4_eats : ByteArray := prog_1_method_21_code
def yX4_eats : MethodName := ⟨RX4, "eats", "(I)I"⟩
abbrev cX4_duty : ByteArray := prog_1_method_22_code
def yX4_duty : MethodName := ⟨RX4, "duty", "(I)I"⟩
abbrev cX4_best : ByteArray := prog_1_method_23_code
def yX4_best : MethodName := ⟨RX4, "best", "(I)I"⟩
abbrev cX4_guard : ByteArray := prog_1_method_24_code
def yX4_guard : MethodName := ⟨RX4, "guard", "(I)I"⟩
abbrev cX4_send : ByteArray := prog_1_method_25_code
def yX4_send : MethodName := ⟨RX4, "send", "(II)I"⟩
abbrev cX4_raise : ByteArray := prog_1_method_26_code
def yX4_raise : MethodName := ⟨RX4, "raise", "(I)I"⟩
abbrev cX4_mean : ByteArray := prog_1_method_27_code
def yX4_mean : MethodName := ⟨RX4, "mean", "(II)J"⟩
abbrev cX4_luck : ByteArray := prog_1_method_28_code
def yX4_luck : MethodName := ⟨RX4, "luck", "(III)J"⟩
abbrev cX4_see : ByteArray := prog_1_method_29_code
def yX4_see : MethodName := ⟨RX4, "see", "(II)I"⟩
abbrev cX4_forget : ByteArray := prog_1_method_30_code
def yX4_forget : MethodName := ⟨RX4, "forget", "(I)I"⟩
abbrev cX4_tastes : ByteArray := prog_1_method_31_code
def yX4_tastes : MethodName := ⟨RX4, "tastes", "(I)I"⟩
abbrev cX4_bought : ByteArray := prog_1_method_32_code
def yX4_bought : MethodName := ⟨RX4, "bought", "()I"⟩
abbrev cX4_pricked : ByteArray := prog_1_method_33_code
def yX4_pricked : MethodName := ⟨RX4, "pricked", "(I)I"⟩
abbrev cX4_lain : ByteArray := prog_1_method_34_code
def yX4_lain : MethodName := ⟨RX4, "lain", "(I)I"⟩
abbrev cX4_drift : ByteArray := prog_1_method_35_code
def yX4_drift : MethodName := ⟨RX4, "drift", "(III)I"⟩
abbrev cX4_keep : ByteArray := prog_1_method_36_code
def yX4_keep : MethodName := ⟨RX4, "keep", "(I)I"⟩
abbrev cX4_back : ByteArray := prog_1_method_37_code
def yX4_back : MethodName := ⟨RX4, "back", "(I)I"⟩
abbrev cX4_sheet : ByteArray := prog_1_method_38_code
def yX4_sheet : MethodName := ⟨RX4, "sheet", "(III)I"⟩
abbrev cX4_lay : ByteArray := prog_1_method_39_code
def yX4_lay : MethodName := ⟨RX4, "lay", "(III)I"⟩
abbrev cX4_read : ByteArray := prog_1_method_40_code
def yX4_read : MethodName := ⟨RX4, "read", "(IIII)I"⟩
abbrev cX4_torn : ByteArray := prog_1_method_41_code
def yX4_torn : MethodName := ⟨RX4, "torn", "()I"⟩
abbrev cX4_count : ByteArray := prog_1_method_42_code
def yX4_count : MethodName := ⟨RX4, "count", "(I)I"⟩
abbrev cX4_within : ByteArray := prog_1_method_43_code
def yX4_within : MethodName := ⟨RX4, "within", "(III)Z"⟩
abbrev cX4_isBale : ByteArray := prog_1_method_44_code
def yX4_isBale : MethodName := ⟨RX4, "isBale", "(I)Z"⟩
abbrev cX4_isSheet : ByteArray := prog_1_method_45_code
def yX4_isSheet : MethodName := ⟨RX4, "isSheet", "(I)Z"⟩
abbrev cX4_isLane : ByteArray := prog_1_method_46_code
def yX4_isLane : MethodName := ⟨RX4, "isLane", "(I)Z"⟩
abbrev cX4_mostOfTrait : ByteArray := prog_1_method_47_code
def yX4_mostOfTrait : MethodName := ⟨RX4, "mostOfTrait", "(I)I"⟩
abbrev cX4_tryNight : ByteArray := prog_1_method_48_code
def yX4_tryNight : MethodName := ⟨RX4, "tryNight", "(I)V"⟩
abbrev cX4_leastBy : ByteArray := prog_1_method_49_code
def yX4_leastBy : MethodName := ⟨RX4, "leastBy", "(ZI)I"⟩
abbrev cX4_weight : ByteArray := prog_1_method_50_code
def yX4_weight : MethodName := ⟨RX4, "weight", "(II)J"⟩
abbrev cX4_partOfFraction : ByteArray := prog_1_method_51_code
def yX4_partOfFraction : MethodName := ⟨RX4, "partOfFraction", "(JI)J"⟩
abbrev cX4_commonDivisor : ByteArray := prog_1_method_52_code
def yX4_commonDivisor : MethodName := ⟨RX4, "commonDivisor", "(JJ)J"⟩
def RX5 : String := "MothCustomsModel"
def TX5 : u_T := fun k => match k with
  | 0 => ("MothCustomsModel", "st", "[I", true)
  | 1 => ("MothCustomsModel", "at", "[I", true)
  | 2 => ("MothCustomsModel", "isKept", "[Z", true)
  | 3 => ("MothCustomsModel", "bolts", "I", false)
  | 4 => ("MothCustomsModel", "moths", "I", false)
  | 5 => ("MothCustomsModel", "draft", "[I", true)
  | 6 => ("MothCustomsModel", "dBolts", "I", false)
  | 7 => ("MothCustomsModel", "dMoths", "I", false)
  | 8 => ("MothCustomsModel", "toldLines", "I", false)
  | 9 => ("MothCustomsModel", "toldCamphor", "I", false)
  | 10 => ("MothCustomsModel", "highest", "I", false)
  | 11 => ("MothCustomsModel", "tape", "[I", true)
  | 12 => ("MothCustomsModel", "taped", "I", false)
  | 13 => ("MothCustomsModel", "pos", "I", false)
  | 14 => ("MothCustomsModel", "from", "I", false)
  | 15 => ("MothCustomsModel", "sort", "I", false)
  | 16 => ("MothCustomsModel", "value", "I", false)
  | 17 => ("MothCustomsModel", "fault", "I", false)
  | 18 => ("MothCustomsModel", "wrongAt", "I", false)
  | 19 => ("MothCustomsModel", "row", "[I", true)
  | 20 => ("MothCustomsModel", "lanes", "[I", true)
  | 21 => ("MothCustomsModel", "sizes", "[I", true)
  | 22 => ("MothCustomsModel", "cells", "[I", true)
  | 23 => ("MothCustomsModel", "torn", "I", false)
  | _ => ("MothCustomsModel", "had", "[I", true)
def tyX5 : Nat → FieldType := fun k => match k with
  | 0 => .array .int
  | 1 => .array .int
  | 2 => .array .boolean
  | 3 => .int
  | 4 => .int
  | 5 => .array .int
  | 6 => .int
  | 7 => .int
  | 8 => .int
  | 9 => .int
  | 10 => .int
  | 11 => .array .int
  | 12 => .int
  | 13 => .int
  | 14 => .int
  | 15 => .int
  | 16 => .int
  | 17 => .int
  | 18 => .int
  | 19 => .array .int
  | 20 => .array .int
  | 21 => .array .int
  | 22 => .array .int
  | 23 => .int
  | _ => .array .int
theorem nmX5 : ∀ a, a < 25 → ∀ b, b < 25 → a ≠ b → (TX5 a).2.1 ≠ (TX5 b).2.1 := by decide +kernel
theorem tyX5_ok : ∀ k, k < 25 → parseFieldDescriptor (TX5 k).2.2.1 = some (tyX5 k) := by decide +kernel
abbrev cX5_init : ByteArray := prog_7_method_1_code
def yX5_init : MethodName := ⟨RX5, "<init>", "()V"⟩
abbrev cX5_in : ByteArray := prog_7_method_3_code
def yX5_in : MethodName := ⟨RX5, "in", "(JJJ)Z"⟩
abbrev cX5_flag : ByteArray := prog_7_method_4_code
def yX5_flag : MethodName := ⟨RX5, "flag", "(Z)I"⟩
abbrev cX5_firstDraft : ByteArray := prog_7_method_5_code
def yX5_firstDraft : MethodName := ⟨RX5, "firstDraft", "()V"⟩
abbrev cX5_keepDraft : ByteArray := prog_7_method_6_code
def yX5_keepDraft : MethodName := ⟨RX5, "keepDraft", "()V"⟩
abbrev cX5_feed : ByteArray := prog_7_method_7_code
def yX5_feed : MethodName := ⟨RX5, "feed", "(I)I"⟩
abbrev cX5_end : ByteArray := prog_7_method_8_code
def yX5_end : MethodName := ⟨RX5, "end", "(I)I"⟩
abbrev cX5_needs : ByteArray := prog_7_method_9_code
def yX5_needs : MethodName := ⟨RX5, "needs", "(ZI)V"⟩
abbrev cX5_byteAt : ByteArray := prog_7_method_10_code
def yX5_byteAt : MethodName := ⟨RX5, "byteAt", "(I)I"⟩
abbrev cX5_is : ByteArray := prog_7_method_11_code
def yX5_is : MethodName := ⟨RX5, "is", "(IIII)Z"⟩
abbrev cX5_ends : ByteArray := prog_7_method_12_code
def yX5_ends : MethodName := ⟨RX5, "ends", "(IIII)Z"⟩
abbrev cX5_lineNow : ByteArray := prog_7_method_13_code
def yX5_lineNow : MethodName := ⟨RX5, "lineNow", "()I"⟩
abbrev cX5_next : ByteArray := prog_7_method_14_code
def yX5_next : MethodName := ⟨RX5, "next", "()V"⟩
abbrev cX5_looked : ByteArray := prog_7_method_15_code
def yX5_looked : MethodName := ⟨RX5, "looked", "(II)I"⟩
abbrev cX5_readNumber : ByteArray := prog_7_method_16_code
def yX5_readNumber : MethodName := ⟨RX5, "readNumber", "(II)I"⟩
abbrev cX5_readBolt : ByteArray := prog_7_method_17_code
def yX5_readBolt : MethodName := ⟨RX5, "readBolt", "()V"⟩
abbrev cX5_readMoth : ByteArray := prog_7_method_18_code
def yX5_readMoth : MethodName := ⟨RX5, "readMoth", "(I)V"⟩
abbrev cX5_readCamphor : ByteArray := prog_7_method_19_code
def yX5_readCamphor : MethodName := ⟨RX5, "readCamphor", "()V"⟩
abbrev cX5_readLineOf : ByteArray := prog_7_method_20_code
def yX5_readLineOf : MethodName := ⟨RX5, "readLineOf", "(I)V"⟩
abbrev cX5_readLine : ByteArray := prog_7_method_21_code
def yX5_readLine : MethodName := ⟨RX5, "readLine", "()V"⟩
abbrev cX5_text : ByteArray := prog_7_method_22_code
def yX5_text : MethodName := ⟨RX5, "text", "()I"⟩
abbrev cX5_fault : ByteArray := prog_7_method_23_code
def yX5_fault : MethodName := ⟨RX5, "fault", "()I"⟩
abbrev cX5_isBolt : ByteArray := prog_7_method_24_code
def yX5_isBolt : MethodName := ⟨RX5, "isBolt", "(I)Z"⟩
abbrev cX5_isMoth : ByteArray := prog_7_method_25_code
def yX5_isMoth : MethodName := ⟨RX5, "isMoth", "(I)Z"⟩
abbrev cX5_isBale : ByteArray := prog_7_method_26_code
def yX5_isBale : MethodName := ⟨RX5, "isBale", "(I)Z"⟩
abbrev cX5_isPart : ByteArray := prog_7_method_27_code
def yX5_isPart : MethodName := ⟨RX5, "isPart", "(I)Z"⟩
abbrev cX5_starts : ByteArray := prog_7_method_28_code
def yX5_starts : MethodName := ⟨RX5, "starts", "()V"⟩
abbrev cX5_settles : ByteArray := prog_7_method_29_code
def yX5_settles : MethodName := ⟨RX5, "settles", "()V"⟩
abbrev cX5_of : ByteArray := prog_7_method_30_code
def yX5_of : MethodName := ⟨RX5, "of", "(II)I"⟩
abbrev cX5_becomesOf : ByteArray := prog_7_method_31_code
def yX5_becomesOf : MethodName := ⟨RX5, "becomesOf", "(III)V"⟩
abbrev cX5_mothOf : ByteArray := prog_7_method_32_code
def yX5_mothOf : MethodName := ⟨RX5, "mothOf", "(II)I"⟩
abbrev cX5_liesIn : ByteArray := prog_7_method_33_code
def yX5_liesIn : MethodName := ⟨RX5, "liesIn", "(I)I"⟩
abbrev cX5_boltAt : ByteArray := prog_7_method_34_code
def yX5_boltAt : MethodName := ⟨RX5, "boltAt", "(II)I"⟩
abbrev cX5_appetite : ByteArray := prog_7_method_35_code
def yX5_appetite : MethodName := ⟨RX5, "appetite", "(I)I"⟩
abbrev cX5_doesLike : ByteArray := prog_7_method_36_code
def yX5_doesLike : MethodName := ⟨RX5, "doesLike", "(II)Z"⟩
abbrev cX5_eatsNow : ByteArray := prog_7_method_37_code
def yX5_eatsNow : MethodName := ⟨RX5, "eatsNow", "(I)I"⟩
abbrev cX5_nightGoes : ByteArray := prog_7_method_38_code
def yX5_nightGoes : MethodName := ⟨RX5, "nightGoes", "(I)V"⟩
abbrev cX5_everyMoth : ByteArray := prog_7_method_39_code
def yX5_everyMoth : MethodName := ⟨RX5, "everyMoth", "()I"⟩
abbrev cX5_nightsGo : ByteArray := prog_7_method_40_code
def yX5_nightsGo : MethodName := ⟨RX5, "nightsGo", "(I)V"⟩
abbrev cX5_dutyOf : ByteArray := prog_7_method_41_code
def yX5_dutyOf : MethodName := ⟨RX5, "dutyOf", "(I)I"⟩
abbrev cX5_dutyAll : ByteArray := prog_7_method_42_code
def yX5_dutyAll : MethodName := ⟨RX5, "dutyAll", "()I"⟩
abbrev cX5_dutyNext : ByteArray := prog_7_method_43_code
def yX5_dutyNext : MethodName := ⟨RX5, "dutyNext", "()I"⟩
abbrev cX5_allHoles : ByteArray := prog_7_method_44_code
def yX5_allHoles : MethodName := ⟨RX5, "allHoles", "()I"⟩
abbrev cX5_isEaten : ByteArray := prog_7_method_45_code
def yX5_isEaten : MethodName := ⟨RX5, "isEaten", "(I)Z"⟩
abbrev cX5_eaten : ByteArray := prog_7_method_46_code
def yX5_eaten : MethodName := ⟨RX5, "eaten", "()I"⟩
abbrev cX5_rule : ByteArray := prog_7_method_47_code
def yX5_rule : MethodName := ⟨RX5, "rule", "(I)I"⟩
abbrev cX5_bolt : ByteArray := prog_7_method_48_code
def yX5_bolt : MethodName := ⟨RX5, "bolt", "(II)I"⟩
abbrev cX5_moth : ByteArray := prog_7_method_49_code
def yX5_moth : MethodName := ⟨RX5, "moth", "(II)I"⟩
abbrev cX5_bale : ByteArray := prog_7_method_50_code
def yX5_bale : MethodName := ⟨RX5, "bale", "(II)I"⟩
abbrev cX5_becomes : ByteArray := prog_7_method_51_code
def yX5_becomes : MethodName := ⟨RX5, "becomes", "(II)I"⟩
abbrev cX5_folds : ByteArray := prog_7_method_52_code
def yX5_folds : MethodName := ⟨RX5, "folds", "(IIZ)V"⟩
abbrev cX5_folded : ByteArray := prog_7_method_53_code
def yX5_folded : MethodName := ⟨RX5, "folded", "(IIZ)I"⟩
abbrev cX5_fold : ByteArray := prog_7_method_54_code
def yX5_fold : MethodName := ⟨RX5, "fold", "(II)I"⟩
abbrev cX5_under : ByteArray := prog_7_method_55_code
def yX5_under : MethodName := ⟨RX5, "under", "(II)I"⟩
abbrev cX5_swap : ByteArray := prog_7_method_56_code
def yX5_swap : MethodName := ⟨RX5, "swap", "(II)I"⟩
abbrev cX5_camphor : ByteArray := prog_7_method_57_code
def yX5_camphor : MethodName := ⟨RX5, "camphor", "(IZ)I"⟩
abbrev cX5_patch : ByteArray := prog_7_method_58_code
def yX5_patch : MethodName := ⟨RX5, "patch", "(II)I"⟩
abbrev cX5_prick : ByteArray := prog_7_method_59_code
def yX5_prick : MethodName := ⟨RX5, "prick", "(I)I"⟩
abbrev cX5_mostOf : ByteArray := prog_7_method_60_code
def yX5_mostOf : MethodName := ⟨RX5, "mostOf", "(I)I"⟩
abbrev cX5_alter : ByteArray := prog_7_method_61_code
def yX5_alter : MethodName := ⟨RX5, "alter", "(III)I"⟩
abbrev cX5_set : ByteArray := prog_7_method_62_code
def yX5_set : MethodName := ⟨RX5, "set", "(II)I"⟩
abbrev cX5_go : ByteArray := prog_7_method_63_code
def yX5_go : MethodName := ⟨RX5, "go", "(I)I"⟩
abbrev cX5_ahead : ByteArray := prog_7_method_64_code
def yX5_ahead : MethodName := ⟨RX5, "ahead", "(II)I"⟩
abbrev cX5_when : ByteArray := prog_7_method_65_code
def yX5_when : MethodName := ⟨RX5, "when", "(I)I"⟩
abbrev cX5_eats : ByteArray := prog_7_method_66_code
def yX5_eats : MethodName := ⟨RX5, "eats", "(I)I"⟩
abbrev cX5_duty : ByteArray := prog_7_method_67_code
def yX5_duty : MethodName := ⟨RX5, "duty", "(I)I"⟩
abbrev cX5_isRow : ByteArray := prog_7_method_68_code
def yX5_isRow : MethodName := ⟨RX5, "isRow", "(I)Z"⟩
abbrev cX5_rows : ByteArray := prog_7_method_69_code
def yX5_rows : MethodName := ⟨RX5, "rows", "()I"⟩
abbrev cX5_cutsAt : ByteArray := prog_7_method_70_code
def yX5_cutsAt : MethodName := ⟨RX5, "cutsAt", "(II)V"⟩
abbrev cX5_placesNow : ByteArray := prog_7_method_71_code
def yX5_placesNow : MethodName := ⟨RX5, "placesNow", "()I"⟩
abbrev cX5_placeIn : ByteArray := prog_7_method_72_code
def yX5_placeIn : MethodName := ⟨RX5, "placeIn", "(II)I"⟩
abbrev cX5_best : ByteArray := prog_7_method_73_code
def yX5_best : MethodName := ⟨RX5, "best", "(I)I"⟩
abbrev cX5_guard : ByteArray := prog_7_method_74_code
def yX5_guard : MethodName := ⟨RX5, "guard", "(I)I"⟩
abbrev cX5_send : ByteArray := prog_7_method_75_code
def yX5_send : MethodName := ⟨RX5, "send", "(II)I"⟩
abbrev cX5_raise : ByteArray := prog_7_method_76_code
def yX5_raise : MethodName := ⟨RX5, "raise", "(I)I"⟩
abbrev cX5_common : ByteArray := prog_7_method_77_code
def yX5_common : MethodName := ⟨RX5, "common", "(JJ)J"⟩
abbrev cX5_told : ByteArray := prog_7_method_78_code
def yX5_told : MethodName := ⟨RX5, "told", "(JJI)J"⟩
abbrev cX5_waysOf : ByteArray := prog_7_method_79_code
def yX5_waysOf : MethodName := ⟨RX5, "waysOf", "(II)J"⟩
abbrev cX5_allWays : ByteArray := prog_7_method_80_code
def yX5_allWays : MethodName := ⟨RX5, "allWays", "()J"⟩
abbrev cX5_mean : ByteArray := prog_7_method_81_code
def yX5_mean : MethodName := ⟨RX5, "mean", "(II)J"⟩
abbrev cX5_luck : ByteArray := prog_7_method_82_code
def yX5_luck : MethodName := ⟨RX5, "luck", "(III)J"⟩
abbrev cX5_see : ByteArray := prog_7_method_83_code
def yX5_see : MethodName := ⟨RX5, "see", "(II)I"⟩
abbrev cX5_forget : ByteArray := prog_7_method_84_code
def yX5_forget : MethodName := ⟨RX5, "forget", "(I)I"⟩
abbrev cX5_isSo : ByteArray := prog_7_method_85_code
def yX5_isSo : MethodName := ⟨RX5, "isSo", "(I)Z"⟩
abbrev cX5_tastes : ByteArray := prog_7_method_86_code
def yX5_tastes : MethodName := ⟨RX5, "tastes", "(I)I"⟩
abbrev cX5_bought : ByteArray := prog_7_method_87_code
def yX5_bought : MethodName := ⟨RX5, "bought", "()I"⟩
abbrev cX5_pricked : ByteArray := prog_7_method_88_code
def yX5_pricked : MethodName := ⟨RX5, "pricked", "(I)I"⟩
abbrev cX5_liesBy : ByteArray := prog_7_method_89_code
def yX5_liesBy : MethodName := ⟨RX5, "liesBy", "(I)V"⟩
abbrev cX5_lain : ByteArray := prog_7_method_90_code
def yX5_lain : MethodName := ⟨RX5, "lain", "(I)I"⟩
abbrev cX5_drift : ByteArray := prog_7_method_91_code
def yX5_drift : MethodName := ⟨RX5, "drift", "(III)I"⟩
abbrev cX5_copies : ByteArray := prog_7_method_92_code
def yX5_copies : MethodName := ⟨RX5, "copies", "(II)V"⟩
abbrev cX5_keep : ByteArray := prog_7_method_93_code
def yX5_keep : MethodName := ⟨RX5, "keep", "(I)I"⟩
abbrev cX5_back : ByteArray := prog_7_method_94_code
def yX5_back : MethodName := ⟨RX5, "back", "(I)I"⟩
abbrev cX5_isSheet : ByteArray := prog_7_method_95_code
def yX5_isSheet : MethodName := ⟨RX5, "isSheet", "(II)Z"⟩
abbrev cX5_sheet : ByteArray := prog_7_method_96_code
def yX5_sheet : MethodName := ⟨RX5, "sheet", "(III)I"⟩
abbrev cX5_lay : ByteArray := prog_7_method_97_code
def yX5_lay : MethodName := ⟨RX5, "lay", "(III)I"⟩
abbrev cX5_read : ByteArray := prog_7_method_98_code
def yX5_read : MethodName := ⟨RX5, "read", "(IIII)I"⟩
abbrev cX5_torn : ByteArray := prog_7_method_99_code
def yX5_torn : MethodName := ⟨RX5, "torn", "()I"⟩
abbrev cX5_count : ByteArray := prog_7_method_100_code
def yX5_count : MethodName := ⟨RX5, "count", "(I)I"⟩
def RJ6 : String := "java/lang/Integer"
def TJ6 : u_T := fun k => match k with
  | _ => ("", "", "", false)
def tyJ6 : Nat → FieldType := fun k => match k with
  | _ => .int
theorem nmJ6 : ∀ a, a < 0 → ∀ b, b < 0 → a ≠ b → (TJ6 a).2.1 ≠ (TJ6 b).2.1 := by decide +kernel
theorem tyJ6_ok : ∀ k, k < 0 → parseFieldDescriptor (TJ6 k).2.2.1 = some (tyJ6 k) := by decide +kernel
abbrev cJ6_bitCount_0f7a4 : ByteArray := prog_8_method_49_code
def yJ6_bitCount_0f7a4 : MethodName := ⟨RJ6, "bitCount", "(I)I"⟩
def RJ9 : String := "java/lang/Math"
def TJ9 : u_T := fun k => match k with
  | _ => ("", "", "", false)
def tyJ9 : Nat → FieldType := fun k => match k with
  | _ => .int
theorem nmJ9 : ∀ a, a < 0 → ∀ b, b < 0 → a ≠ b → (TJ9 a).2.1 ≠ (TJ9 b).2.1 := by decide +kernel
theorem tyJ9_ok : ∀ k, k < 0 → parseFieldDescriptor (TJ9 k).2.2.1 = some (tyJ9 k) := by decide +kernel
abbrev cJ9_max_7cf53 : ByteArray := prog_9_method_65_code
def yJ9_max_7cf53 : MethodName := ⟨RJ9, "max", "(II)I"⟩
abbrev cJ9_min_7cf53 : ByteArray := prog_9_method_69_code
def yJ9_min_7cf53 : MethodName := ⟨RJ9, "min", "(II)I"⟩
def RJ0 : String := "java/lang/String"
def TJ0 : u_T := fun k => match k with
  | _ => ("", "", "", false)
def tyJ0 : Nat → FieldType := fun k => match k with
  | _ => .int
theorem nmJ0 : ∀ a, a < 0 → ∀ b, b < 0 → a ≠ b → (TJ0 a).2.1 ≠ (TJ0 b).2.1 := by decide +kernel
theorem tyJ0_ok : ∀ k, k < 0 → parseFieldDescriptor (TJ0 k).2.2.1 = some (tyJ0 k) := by decide +kernel
abbrev cJ0_length_8abf5 : ByteArray := prog_10_method_54_code
def yJ0_length_8abf5 : MethodName := ⟨RJ0, "length", "()I"⟩
abbrev cJ0_charAt_5068e : ByteArray := prog_10_method_56_code
def yJ0_charAt_5068e : MethodName := ⟨RJ0, "charAt", "(I)C"⟩
abbrev cJ0_coder_7d493 : ByteArray := prog_10_method_152_code
def yJ0_coder_7d493 : MethodName := ⟨RJ0, "coder", "()B"⟩
abbrev cJ0_isLatin1_aae02 : ByteArray := prog_10_method_154_code
def yJ0_isLatin1_aae02 : MethodName := ⟨RJ0, "isLatin1", "()Z"⟩
abbrev cJ0_checkIndex_df160 : ByteArray := prog_10_method_155_code
def yJ0_checkIndex_df160 : MethodName := ⟨RJ0, "checkIndex", "(II)V"⟩
def RJ1 : String := "java/lang/StringLatin1"
def TJ1 : u_T := fun k => match k with
  | _ => ("", "", "", false)
def tyJ1 : Nat → FieldType := fun k => match k with
  | _ => .int
theorem nmJ1 : ∀ a, a < 0 → ∀ b, b < 0 → a ≠ b → (TJ1 a).2.1 ≠ (TJ1 b).2.1 := by decide +kernel
theorem tyJ1_ok : ∀ k, k < 0 → parseFieldDescriptor (TJ1 k).2.2.1 = some (tyJ1 k) := by decide +kernel
abbrev cJ1_charAt_3b067 : ByteArray := prog_11_method_2_code
def yJ1_charAt_3b067 : MethodName := ⟨RJ1, "charAt", "([BI)C"⟩
def RJ2 : String := "java/lang/StringUTF16"
def TJ2 : u_T := fun k => match k with
  | _ => ("", "", "", false)
def tyJ2 : Nat → FieldType := fun k => match k with
  | _ => .int
theorem nmJ2 : ∀ a, a < 0 → ∀ b, b < 0 → a ≠ b → (TJ2 a).2.1 ≠ (TJ2 b).2.1 := by decide +kernel
theorem tyJ2_ok : ∀ k, k < 0 → parseFieldDescriptor (TJ2 k).2.2.1 = some (tyJ2 k) := by decide +kernel
abbrev cJ2_getChar_3b067 : ByteArray := prog_12_method_5_code
def yJ2_getChar_3b067 : MethodName := ⟨RJ2, "getChar", "([BI)C"⟩
abbrev cJ2_length_9d52b : ByteArray := prog_12_method_6_code
def yJ2_length_9d52b : MethodName := ⟨RJ2, "length", "([B)I"⟩
abbrev cJ2_charAt_3b067 : ByteArray := prog_12_method_83_code
def yJ2_charAt_3b067 : MethodName := ⟨RJ2, "charAt", "([BI)C"⟩
abbrev cJ2_checkIndex_2214a : ByteArray := prog_12_method_91_code
def yJ2_checkIndex_2214a : MethodName := ⟨RJ2, "checkIndex", "(I[B)V"⟩
def RJ10 : String := "java/lang/System"
def TJ10 : u_T := fun k => match k with
  | _ => ("", "", "", false)
def tyJ10 : Nat → FieldType := fun k => match k with
  | _ => .int
theorem nmJ10 : ∀ a, a < 0 → ∀ b, b < 0 → a ≠ b → (TJ10 a).2.1 ≠ (TJ10 b).2.1 := by decide +kernel
theorem tyJ10_ok : ∀ k, k < 0 → parseFieldDescriptor (TJ10 k).2.2.1 = some (tyJ10 k) := by decide +kernel
def RJ3 : String := "jdk/internal/util/Preconditions"
def TJ3 : u_T := fun k => match k with
  | _ => ("", "", "", false)
def tyJ3 : Nat → FieldType := fun k => match k with
  | _ => .int
theorem nmJ3 : ∀ a, a < 0 → ∀ b, b < 0 → a ≠ b → (TJ3 a).2.1 ≠ (TJ3 b).2.1 := by decide +kernel
theorem tyJ3_ok : ∀ k, k < 0 → parseFieldDescriptor (TJ3 k).2.2.1 = some (tyJ3 k) := by decide +kernel
abbrev cJ3_checkIndex_8e157 : ByteArray := prog_14_method_11_code
def yJ3_checkIndex_8e157 : MethodName := ⟨RJ3, "checkIndex", "(IILjava/util/function/BiFunction;)I"⟩
def RL : String := "MothCustomsLaw"
abbrev cL_law : ByteArray := code
def yL_law : MethodName := ⟨RL, "law", "([I)Z"⟩
abbrev vwCl : List vw_C := [(RX0, TX0, 6), (RX1, TX1, 18), (RX2, TX2, 4), (RX3, TX3, 11), (RX4, TX4, 8), (RX5, TX5, 25)]
end
section
/-! J: a judgement of my own over the kit's W. 'J V E fin o pc L st X': from pc, with the locals L, the operand stack st and a heap that holds the world of the pure state X: if the pure answer o is (some of) the method's answer, the machine comes to its end with it. Rules take the machine's step and the pure program's head off together. -/
def jj_tb : List Cond := lw_tbl.filter goodWord
theorem jj_m {w : Cond} (h : w ∈ lw_tbl) (g : goodWord w = true) : w ∈ jj_tb := List.mem_filter.mpr ⟨h, g⟩
theorem jj_g1 {ws : List Cond} (h : ∀ w ∈ ws, w ∈ jj_tb) : GoodIn jj_tb ws := fun w q => ⟨h w q, good_of_word (List.mem_filter.mp (h w q)).2⟩
def jj_R (d : Nat) : Room := { frames := d, cells := 0, slots := 0, locals := 60 * d }
def jj_len : List Nat := [4, 5, 5, 7, 3, 7, 4, 4]
def jj_byt : List (List Int32) := [[98, 111, 108, 116], [112, 108, 97, 105, 110], [112, 105, 99, 107, 121], [103, 108, 117, 116, 116, 111, 110], [102, 97, 116], [99, 97, 109, 112, 104, 111, 114], [109, 111, 111, 110], [114, 97, 116, 101]]
def jj_six : List Nat := [111, 117, 119, 121, 123, 125, 126, 127]
def jj_stx : List String := ["bolt", "plain", "picky", "glutton", "fat", "camphor", "moon", "rate"]
/-- private members that a nest mate calls: caller, place, method, host -/
def jj_nest : List (String × Nat × MethodName × String) := [("MothCustoms", 11, ⟨"MothCustoms$Tape", "<init>", "()V"⟩, "MothCustoms"), ("MothCustoms", 18, ⟨"MothCustoms$Shed", "<init>", "()V"⟩, "MothCustoms"), ("MothCustoms", 36, ⟨"MothCustoms$Sheet", "<init>", "()V"⟩, "MothCustoms"), ("MothCustoms", 39, ⟨"MothCustoms$Search", "<init>", "()V"⟩, "MothCustoms"), ("MothCustoms$Search", 11, ⟨"MothCustoms$Shed", "<init>", "()V"⟩, "MothCustoms"), ("MothCustoms$Tape", 93, ⟨"MothCustoms", "mostOfTrait", "(I)I"⟩, "MothCustoms"), ("MothCustoms$Tape", 85, ⟨"MothCustoms", "within", "(III)Z"⟩, "MothCustoms"), ("MothCustoms$Shed", 80, ⟨"MothCustoms", "within", "(III)Z"⟩, "MothCustoms"), ("MothCustoms$Sheet", 26, ⟨"MothCustoms", "within", "(III)Z"⟩, "MothCustoms")]
/-- the String constants of the claim: cells K i, their bytes at Z i, none of them in A -/
def jj_St (K Z : Nat → Nat) (A : Nat → Prop) (U : State) (H : Heap) : Prop := vk_S 8 jj_len jj_byt K Z A U H ∧ (∀ i : Nat, i < 8 → vk_R RX3 (jj_six.getD i 0) (jj_stx.getD i "") (K i) U) ∧ ∀ q ∈ jj_nest, va_Nw (.methodLinkNest q.1 q.2.1 q.2.2.1 q.2.2.2) U
/-- several ways to one place: the rest of the program by what differs -/
def jn {α β : Type} (body : (β → α) → α) (k : β → α) : α := body k
def lt {α β : Type} (e : α) (f : α → β) : β := f e
abbrev JV (σ : Type) : Type := va_G × List vw_C × List (ClassId × FieldType) × (σ → va_W) × (Nat → Nat) × (Nat → Nat)
abbrev JE (σ ρ : Type) : Type := Program × Launch × Env × Room × State × MethodId × Array Value × List Frame × Method × Code × Nat × (Nat → Prop) × (Array Value → State → Outcome → State → Prop) × (ρ × σ)
def J {σ ρ α : Type} (V : JV σ) (E : JE σ ρ) (fin : α → ρ × σ) (o : Option α) (pc : Nat) (L : List (Nat × Value)) (st : List Value) (X : σ) : Prop :=
  match E with
  | (p, l, e, R, s, m, args, below, meth, c, nL, A, Qc, res) => o.map fin = some res → ∀ (H : Heap) (locs : List Loc) (ls : Array Slot), va_P V.1 V.2.1 (V.2.2.2.1 X) H → va_D A (V.2.2.2.1 X) → va_S A s.heap H locs → lv_has ls nL L → W p l e R s m args below meth c H locs 0 0 (MQ below Qc args s 0 0 A) (F0 m pc ls st)
def JOk {σ ρ : Type} (V : JV σ) (E : JE σ ρ) (cc : ByteArray) (own : String) (n d : Nat) (ret : Option FieldType) (enc : ρ → Option Value) : Prop :=
  match E with
  | (p, _, _, R, s, m, args, _, meth, c, nL, A, Qc, res) => p.tables.exec = Jvm.exec ∧ c.code = cc ∧ (c.maxLocals = n ∧ nL = n) ∧ s.vm.findClass own = some m.cls ∧ (∀ w ∈ jj_tb, w.before args s = true) ∧ meth.locks = false ∧ meth.sig.returnType = ret ∧ R = jj_R d ∧ va_K V.1 V.2.1 V.2.2.1 s ∧ (∀ q : Nat, s.heap.size ≤ q → A q) ∧ jj_St V.2.2.2.2.1 V.2.2.2.2.2 A s s.heap ∧ (∀ t : State, va_P V.1 V.2.1 (V.2.2.2.1 res.2) t.heap → va_D A (V.2.2.2.1 res.2) → va_F A s t → s.WarmedH t.vm → Qc args s (.returned (enc res.1)) t)
/-- an instruction at its place, and the place behind it -/
def jd (cc : ByteArray) (pc : Nat) (i : Instr) (len pc' : Nat) : Prop := decode cc pc = .ok (i, len) ∧ pc + len = pc'
/-- a method's contract at one pure state: if the pure answer is there, the machine gives it -/
def JC {σ ρ : Type} (l : Launch) (V : JV σ) (y : MethodName) (cc : ByteArray) (n : Nat) (ret : Option FieldType) (enc : ρ → Option Value) (d : Nat) (av : List Value) (X : σ) (o : Option (ρ × σ)) : Prop :=
  ∀ res : ρ × σ, o = some res → ∀ sz : Nat, Met l y (.code y cc n ret :: jj_tb) (jj_R d)
    (va_Pc av (fun U => U.heap.size = sz ∧ va_P V.1 V.2.1 (V.2.2.2.1 X) U.heap ∧ va_K V.1 V.2.1 V.2.2.1 U ∧ va_D (fun _ => True) (V.2.2.2.1 X) ∧ jj_St V.2.2.2.2.1 V.2.2.2.2.2 (va_A (V.2.2.2.1 X) sz) U U.heap))
    (fun _ st oc t => (oc = .returned (enc res.1) ∧ va_P V.1 V.2.1 (V.2.2.2.1 res.2) t.heap ∧ va_K V.1 V.2.1 V.2.2.1 t ∧ va_D (va_A (V.2.2.2.1 X) sz) (V.2.2.2.1 res.2)) ∧ va_F (va_A (V.2.2.2.1 X) sz) st t)
    0 0 (va_A (V.2.2.2.1 X) sz)
theorem jj_of {σ ρ : Type} {l : Launch} {V : JV σ} {y : MethodName} {cc : ByteArray} {n : Nat} {ret : Option FieldType} {enc : ρ → Option Value} {d : Nat} {av : List Value} {X : σ} {α : Type} {fin : α → ρ × σ} {o : Option α} (hy : plainName y.cls = true) (hn : (lg_sl av).length ≤ n) (body : ∀ E : JE σ ρ, E.2.1 = l → JOk V E cc y.cls n d ret enc → J V E fin o 0 (lv_args 0 av) [] X) : JC l V y cc n ret enc d av X (o.map fin) := by
  intro res ho sz
  refine Met.ofW (cc := cc) (maxL := n) (ret := ret) hy rfl ?_
  intro p e s m args below meth c s₁ B hml hv
  obtain ⟨rfl, hsz, hP, hK, hD0, hSt⟩ := hv
  subst hsz
  have hts := atoms_spec (ws := .code y cc n ret :: jj_tb) B.pre
  have hD := hD0.self (sz := s.heap.size)
  have hl := lv_entry av hn
  rw [lg_entry_eq]
  exact body (p, l, e, jj_R d, s, m, av.toArray, below, meth, c, n, va_A (V.2.2.2.1 X) s.heap.size, _, res) rfl ⟨B.exec, B.bytes, ⟨hml, rfl⟩, findClass_of_methodNamed B.named, fun w hw => hts w (List.mem_cons_of_mem _ hw), B.notSynchronized, B.returns, rfl, hK, fun q h => Or.inr h, hSt, fun t a b c w => ⟨⟨rfl, a, va_K.moved w.alike hK, b⟩, c⟩⟩ ho _ _ _ hP hD va_S.rf hl
section JR
variable {σ ρ : Type} {V : JV σ} {E : JE σ ρ} {cc : ByteArray} {own : String} {n d : Nat} {ret : Option FieldType} {enc : ρ → Option Value} {α : Type} {fin : α → ρ × σ} {o : Option α} {pc pc' : Nat} {L L' : List (Nat × Value)} {st : List Value} {X : σ}

theorem J_none : J V E fin none pc L st X := by
  obtain ⟨p, l, e, R, s, m, args, below, meth, c, nL, A, Qc, res⟩ := E
  intro ho
  exact absurd ho (by simp)
theorem J_eq {o' : Option α} (h : o = o') (k : J V E fin o' pc L st X) : J V E fin o pc L st X := h ▸ k
theorem J_sub (ks : List Nat) (h : lv_pick L ks = L') (k : J V E fin o pc L' st X) : J V E fin o pc L st X := by
  obtain ⟨p, l, e, R, s, m, args, below, meth, c, nL, A, Qc, res⟩ := E
  intro ho H locs ls hP hD hS hl
  exact k ho H locs ls hP hD hS (lv_sub hl ks h)
theorem J_iconst (hE : JOk V E cc own n d ret enc) {z : Int} {v : Int32} (hd : jd cc pc (.iconst z) 1 pc') (hv : Int32.ofInt z = v) (k : J V E fin o pc' L (.int v :: st) X) : J V E fin o pc L (st) X := by
  obtain ⟨p, l, e, R, s, m, args, below, meth, c, nL, A, Qc, res⟩ := E
  obtain ⟨hx, hb, ⟨hml, hnL⟩, hown, hts, hlk, hrt, hR, hK, hA, hSt, hq⟩ := hE
  obtain ⟨hd, rfl⟩ := hd
  intro ho H locs ls hP hD hS hl
  exact lv_iconst hx hb hd hv (k ho H locs ls hP hD hS hl)
theorem J_bipush (hE : JOk V E cc own n d ret enc) {z : Int} {v : Int32} (hd : jd cc pc (.bipush z) 2 pc') (hv : (Int8.ofInt z).toInt32 = v) (k : J V E fin o pc' L (.int v :: st) X) : J V E fin o pc L (st) X := by
  obtain ⟨p, l, e, R, s, m, args, below, meth, c, nL, A, Qc, res⟩ := E
  obtain ⟨hx, hb, ⟨hml, hnL⟩, hown, hts, hlk, hrt, hR, hK, hA, hSt, hq⟩ := hE
  obtain ⟨hd, rfl⟩ := hd
  intro ho H locs ls hP hD hS hl
  exact lv_bipush hx hb hd hv (k ho H locs ls hP hD hS hl)
theorem J_sipush (hE : JOk V E cc own n d ret enc) {z : Int} {v : Int32} (hd : jd cc pc (.sipush z) 3 pc') (hv : (Int16.ofInt z).toInt32 = v) (k : J V E fin o pc' L (.int v :: st) X) : J V E fin o pc L (st) X := by
  obtain ⟨p, l, e, R, s, m, args, below, meth, c, nL, A, Qc, res⟩ := E
  obtain ⟨hx, hb, ⟨hml, hnL⟩, hown, hts, hlk, hrt, hR, hK, hA, hSt, hq⟩ := hE
  obtain ⟨hd, rfl⟩ := hd
  intro ho H locs ls hP hD hS hl
  exact lv_sipush hx hb hd hv (k ho H locs ls hP hD hS hl)
theorem J_lconst (hE : JOk V E cc own n d ret enc) {z : Fin 2} {v : Int64} (hd : jd cc pc (.lconst z) 1 pc') (hv : Int64.ofNat (z : Nat) = v) (k : J V E fin o pc' L (.long v :: st) X) : J V E fin o pc L (st) X := by
  obtain ⟨p, l, e, R, s, m, args, below, meth, c, nL, A, Qc, res⟩ := E
  obtain ⟨hx, hb, ⟨hml, hnL⟩, hown, hts, hlk, hrt, hR, hK, hA, hSt, hq⟩ := hE
  obtain ⟨hd, rfl⟩ := hd
  intro ho H locs ls hP hD hS hl
  exact lv_lconst hx hb hd hv (k ho H locs ls hP hD hS hl)
theorem J_ldc (hE : JOk V E cc own n d ret enc) {ix : Nat} {v : Int32} (hd : jd cc pc (.ldc ix) 2 pc') (hw : Cond.constant own ix v ∈ jj_tb) (k : J V E fin o pc' L (.int v :: st) X) : J V E fin o pc L (st) X := by
  obtain ⟨p, l, e, R, s, m, args, below, meth, c, nL, A, Qc, res⟩ := E
  obtain ⟨hx, hb, ⟨hml, hnL⟩, hown, hts, hlk, hrt, hR, hK, hA, hSt, hq⟩ := hE
  obtain ⟨hd, rfl⟩ := hd
  intro ho H locs ls hP hD hS hl
  exact lv_ldc hx hb hown (hts _ hw) hd (k ho H locs ls hP hD hS hl)
theorem J_ldcw (hE : JOk V E cc own n d ret enc) {ix : Nat} {v : Int32} (hd : jd cc pc (.ldc_w ix) 3 pc') (hw : Cond.constant own ix v ∈ jj_tb) (k : J V E fin o pc' L (.int v :: st) X) : J V E fin o pc L (st) X := by
  obtain ⟨p, l, e, R, s, m, args, below, meth, c, nL, A, Qc, res⟩ := E
  obtain ⟨hx, hb, ⟨hml, hnL⟩, hown, hts, hlk, hrt, hR, hK, hA, hSt, hq⟩ := hE
  obtain ⟨hd, rfl⟩ := hd
  intro ho H locs ls hP hD hS hl
  exact lv_ldcw hx hb hown (hts _ hw) hd (k ho H locs ls hP hD hS hl)
theorem J_ldc2 (hE : JOk V E cc own n d ret enc) {ix : Nat} {v : Int64} (hd : jd cc pc (.ldc2_w ix) 3 pc') (hw : Cond.constantLong own ix v ∈ jj_tb) (k : J V E fin o pc' L (.long v :: st) X) : J V E fin o pc L (st) X := by
  obtain ⟨p, l, e, R, s, m, args, below, meth, c, nL, A, Qc, res⟩ := E
  obtain ⟨hx, hb, ⟨hml, hnL⟩, hown, hts, hlk, hrt, hR, hK, hA, hSt, hq⟩ := hE
  obtain ⟨hd, rfl⟩ := hd
  intro ho H locs ls hP hD hS hl
  exact lv_ldc2 hx hb hown (hts _ hw) hd (k ho H locs ls hP hD hS hl)
theorem J_iload_n (hE : JOk V E cc own n d ret enc) {f : Fin 4} {i : Nat} {x : Int32} (hd : jd cc pc (.iload_n f) 1 pc') (j : Nat) (hi : (f : Nat) = i) (hk : L[j]? = some (i, .int x)) (k : J V E fin o pc' L (.int x :: st) X) : J V E fin o pc L (st) X := by
  obtain ⟨p, l, e, R, s, m, args, below, meth, c, nL, A, Qc, res⟩ := E
  obtain ⟨hx, hb, ⟨hml, hnL⟩, hown, hts, hlk, hrt, hR, hK, hA, hSt, hq⟩ := hE
  obtain ⟨hd, rfl⟩ := hd
  intro ho H locs ls hP hD hS hl
  exact lv_iload_n hx hb hd hi (lv_at hl j hk) (k ho H locs ls hP hD hS hl)
theorem J_iload (hE : JOk V E cc own n d ret enc) {i : Nat} {x : Int32} (hd : jd cc pc (.iload i) 2 pc') (j : Nat) (hk : L[j]? = some (i, .int x)) (k : J V E fin o pc' L (.int x :: st) X) : J V E fin o pc L (st) X := by
  obtain ⟨p, l, e, R, s, m, args, below, meth, c, nL, A, Qc, res⟩ := E
  obtain ⟨hx, hb, ⟨hml, hnL⟩, hown, hts, hlk, hrt, hR, hK, hA, hSt, hq⟩ := hE
  obtain ⟨hd, rfl⟩ := hd
  intro ho H locs ls hP hD hS hl
  exact lv_iload hx hb hd (lv_at hl j hk) (k ho H locs ls hP hD hS hl)
theorem J_istore_n (hE : JOk V E cc own n d ret enc) {f : Fin 4} {i : Nat} {x : Int32} (hd : jd cc pc (.istore_n f) 1 pc') (hn : i < n) (hi : (f : Nat) = i) (hL : (i, Value.int x) :: L.filter (fun q => !(q.1 == i) && !(q.1 + 1 == i && q.2.category == 2)) = L') (k : J V E fin o pc' L' st X) : J V E fin o pc L (.int x :: st) X := by
  obtain ⟨p, l, e, R, s, m, args, below, meth, c, nL, A, Qc, res⟩ := E
  obtain ⟨hx, hb, ⟨hml, hnL⟩, hown, hts, hlk, hrt, hR, hK, hA, hSt, hq⟩ := hE
  obtain ⟨hd, rfl⟩ := hd
  subst hnL
  intro ho H locs ls hP hD hS hl
  exact lv_istore_n hx hb hd hi hl hn hL (fun ls' hl' => k ho H locs ls' hP hD hS hl')
theorem J_istore (hE : JOk V E cc own n d ret enc) {i : Nat} {x : Int32} (hd : jd cc pc (.istore i) 2 pc') (hn : i < n) (hL : (i, Value.int x) :: L.filter (fun q => !(q.1 == i) && !(q.1 + 1 == i && q.2.category == 2)) = L') (k : J V E fin o pc' L' st X) : J V E fin o pc L (.int x :: st) X := by
  obtain ⟨p, l, e, R, s, m, args, below, meth, c, nL, A, Qc, res⟩ := E
  obtain ⟨hx, hb, ⟨hml, hnL⟩, hown, hts, hlk, hrt, hR, hK, hA, hSt, hq⟩ := hE
  obtain ⟨hd, rfl⟩ := hd
  subst hnL
  intro ho H locs ls hP hD hS hl
  exact lv_istore hx hb hd hl hn hL (fun ls' hl' => k ho H locs ls' hP hD hS hl')
theorem J_lload_n (hE : JOk V E cc own n d ret enc) {f : Fin 4} {i : Nat} {x : Int64} (hd : jd cc pc (.lload_n f) 1 pc') (j : Nat) (hi : (f : Nat) = i) (hk : L[j]? = some (i, .long x)) (k : J V E fin o pc' L (.long x :: st) X) : J V E fin o pc L (st) X := by
  obtain ⟨p, l, e, R, s, m, args, below, meth, c, nL, A, Qc, res⟩ := E
  obtain ⟨hx, hb, ⟨hml, hnL⟩, hown, hts, hlk, hrt, hR, hK, hA, hSt, hq⟩ := hE
  obtain ⟨hd, rfl⟩ := hd
  intro ho H locs ls hP hD hS hl
  exact lv_lload_n hx hb hd hi (lv_at hl j hk) (k ho H locs ls hP hD hS hl)
theorem J_lload (hE : JOk V E cc own n d ret enc) {i : Nat} {x : Int64} (hd : jd cc pc (.lload i) 2 pc') (j : Nat) (hk : L[j]? = some (i, .long x)) (k : J V E fin o pc' L (.long x :: st) X) : J V E fin o pc L (st) X := by
  obtain ⟨p, l, e, R, s, m, args, below, meth, c, nL, A, Qc, res⟩ := E
  obtain ⟨hx, hb, ⟨hml, hnL⟩, hown, hts, hlk, hrt, hR, hK, hA, hSt, hq⟩ := hE
  obtain ⟨hd, rfl⟩ := hd
  intro ho H locs ls hP hD hS hl
  exact lv_lload hx hb hd (lv_at hl j hk) (k ho H locs ls hP hD hS hl)
theorem J_lstore_n (hE : JOk V E cc own n d ret enc) {f : Fin 4} {i : Nat} {x : Int64} (hd : jd cc pc (.lstore_n f) 1 pc') (hn : i + 1 < n) (hi : (f : Nat) = i) (hL : (i, Value.long x) :: L.filter (fun q => !(q.1 == i) && (!(q.1 == i + 1) && !(q.1 + 1 == i && q.2.category == 2))) = L') (k : J V E fin o pc' L' st X) : J V E fin o pc L (.long x :: st) X := by
  obtain ⟨p, l, e, R, s, m, args, below, meth, c, nL, A, Qc, res⟩ := E
  obtain ⟨hx, hb, ⟨hml, hnL⟩, hown, hts, hlk, hrt, hR, hK, hA, hSt, hq⟩ := hE
  obtain ⟨hd, rfl⟩ := hd
  subst hnL
  intro ho H locs ls hP hD hS hl
  exact lv_lstore_n hx hb hd hi hl hn hL (fun ls' hl' => k ho H locs ls' hP hD hS hl')
theorem J_lstore (hE : JOk V E cc own n d ret enc) {i : Nat} {x : Int64} (hd : jd cc pc (.lstore i) 2 pc') (hn : i + 1 < n) (hL : (i, Value.long x) :: L.filter (fun q => !(q.1 == i) && (!(q.1 == i + 1) && !(q.1 + 1 == i && q.2.category == 2))) = L') (k : J V E fin o pc' L' st X) : J V E fin o pc L (.long x :: st) X := by
  obtain ⟨p, l, e, R, s, m, args, below, meth, c, nL, A, Qc, res⟩ := E
  obtain ⟨hx, hb, ⟨hml, hnL⟩, hown, hts, hlk, hrt, hR, hK, hA, hSt, hq⟩ := hE
  obtain ⟨hd, rfl⟩ := hd
  subst hnL
  intro ho H locs ls hP hD hS hl
  exact lv_lstore hx hb hd hl hn hL (fun ls' hl' => k ho H locs ls' hP hD hS hl')
theorem J_aload_n (hE : JOk V E cc own n d ret enc) {f : Fin 4} {i : Nat} {x : Nat} (hd : jd cc pc (.aload_n f) 1 pc') (j : Nat) (hi : (f : Nat) = i) (hk : L[j]? = some (i, .ref x)) (k : J V E fin o pc' L (.ref x :: st) X) : J V E fin o pc L (st) X := by
  obtain ⟨p, l, e, R, s, m, args, below, meth, c, nL, A, Qc, res⟩ := E
  obtain ⟨hx, hb, ⟨hml, hnL⟩, hown, hts, hlk, hrt, hR, hK, hA, hSt, hq⟩ := hE
  obtain ⟨hd, rfl⟩ := hd
  intro ho H locs ls hP hD hS hl
  exact lv_aload_n hx hb hd hi (lv_at hl j hk) (k ho H locs ls hP hD hS hl)
theorem J_aload (hE : JOk V E cc own n d ret enc) {i : Nat} {x : Nat} (hd : jd cc pc (.aload i) 2 pc') (j : Nat) (hk : L[j]? = some (i, .ref x)) (k : J V E fin o pc' L (.ref x :: st) X) : J V E fin o pc L (st) X := by
  obtain ⟨p, l, e, R, s, m, args, below, meth, c, nL, A, Qc, res⟩ := E
  obtain ⟨hx, hb, ⟨hml, hnL⟩, hown, hts, hlk, hrt, hR, hK, hA, hSt, hq⟩ := hE
  obtain ⟨hd, rfl⟩ := hd
  intro ho H locs ls hP hD hS hl
  exact lv_aload hx hb hd (lv_at hl j hk) (k ho H locs ls hP hD hS hl)
theorem J_astore_n (hE : JOk V E cc own n d ret enc) {f : Fin 4} {i : Nat} {x : Nat} (hd : jd cc pc (.astore_n f) 1 pc') (hn : i < n) (hi : (f : Nat) = i) (hL : (i, Value.ref x) :: L.filter (fun q => !(q.1 == i) && !(q.1 + 1 == i && q.2.category == 2)) = L') (k : J V E fin o pc' L' st X) : J V E fin o pc L (.ref x :: st) X := by
  obtain ⟨p, l, e, R, s, m, args, below, meth, c, nL, A, Qc, res⟩ := E
  obtain ⟨hx, hb, ⟨hml, hnL⟩, hown, hts, hlk, hrt, hR, hK, hA, hSt, hq⟩ := hE
  obtain ⟨hd, rfl⟩ := hd
  subst hnL
  intro ho H locs ls hP hD hS hl
  exact lv_astore_n hx hb hd hi hl hn hL (fun ls' hl' => k ho H locs ls' hP hD hS hl')
theorem J_astore (hE : JOk V E cc own n d ret enc) {i : Nat} {x : Nat} (hd : jd cc pc (.astore i) 2 pc') (hn : i < n) (hL : (i, Value.ref x) :: L.filter (fun q => !(q.1 == i) && !(q.1 + 1 == i && q.2.category == 2)) = L') (k : J V E fin o pc' L' st X) : J V E fin o pc L (.ref x :: st) X := by
  obtain ⟨p, l, e, R, s, m, args, below, meth, c, nL, A, Qc, res⟩ := E
  obtain ⟨hx, hb, ⟨hml, hnL⟩, hown, hts, hlk, hrt, hR, hK, hA, hSt, hq⟩ := hE
  obtain ⟨hd, rfl⟩ := hd
  subst hnL
  intro ho H locs ls hP hD hS hl
  exact lv_astore hx hb hd hl hn hL (fun ls' hl' => k ho H locs ls' hP hD hS hl')
theorem J_iinc (hE : JOk V E cc own n d ret enc) {i j : Nat} {z : Int} {x v : Int32} (hd : jd cc pc (.iinc i z) 3 pc') (hk : L[j]? = some (i, .int x)) (hv : x + Int32.ofInt z = v) (hn : i < n) (hL : (i, Value.int v) :: L.filter (fun q => !(q.1 == i) && !(q.1 + 1 == i && q.2.category == 2)) = L') (k : J V E fin o pc' L' st X) : J V E fin o pc L st X := by
  obtain ⟨p, l, e, R, s, m, args, below, meth, c, nL, A, Qc, res⟩ := E
  obtain ⟨hx, hb, ⟨hml, hnL⟩, hown, hts, hlk, hrt, hR, hK, hA, hSt, hq⟩ := hE
  obtain ⟨hd, rfl⟩ := hd
  subst hnL
  intro ho H locs ls hP hD hS hl
  exact lv_iinc hx hb hd hl hk hv hn hL (fun ls' hl' => k ho H locs ls' hP hD hS hl')
theorem J_iadd (hE : JOk V E cc own n d ret enc) {x y : Int32} (hd : jd cc pc .iadd 1 pc')  (k : J V E fin o pc' L (.int (x + y) :: st) X) : J V E fin o pc L (.int y :: .int x :: st) X := by
  obtain ⟨p, l, e, R, s, m, args, below, meth, c, nL, A, Qc, res⟩ := E
  obtain ⟨hx, hb, ⟨hml, hnL⟩, hown, hts, hlk, hrt, hR, hK, hA, hSt, hq⟩ := hE
  obtain ⟨hd, rfl⟩ := hd
  intro ho H locs ls hP hD hS hl
  exact lv_iadd hx hb hd (k ho H locs ls hP hD hS hl)
theorem J_isub (hE : JOk V E cc own n d ret enc) {x y : Int32} (hd : jd cc pc .isub 1 pc')  (k : J V E fin o pc' L (.int (x - y) :: st) X) : J V E fin o pc L (.int y :: .int x :: st) X := by
  obtain ⟨p, l, e, R, s, m, args, below, meth, c, nL, A, Qc, res⟩ := E
  obtain ⟨hx, hb, ⟨hml, hnL⟩, hown, hts, hlk, hrt, hR, hK, hA, hSt, hq⟩ := hE
  obtain ⟨hd, rfl⟩ := hd
  intro ho H locs ls hP hD hS hl
  exact lv_isub hx hb hd (k ho H locs ls hP hD hS hl)
theorem J_imul (hE : JOk V E cc own n d ret enc) {x y : Int32} (hd : jd cc pc .imul 1 pc')  (k : J V E fin o pc' L (.int (x * y) :: st) X) : J V E fin o pc L (.int y :: .int x :: st) X := by
  obtain ⟨p, l, e, R, s, m, args, below, meth, c, nL, A, Qc, res⟩ := E
  obtain ⟨hx, hb, ⟨hml, hnL⟩, hown, hts, hlk, hrt, hR, hK, hA, hSt, hq⟩ := hE
  obtain ⟨hd, rfl⟩ := hd
  intro ho H locs ls hP hD hS hl
  exact lv_imul hx hb hd (k ho H locs ls hP hD hS hl)
theorem J_iand (hE : JOk V E cc own n d ret enc) {x y : Int32} (hd : jd cc pc .iand 1 pc')  (k : J V E fin o pc' L (.int (x &&& y) :: st) X) : J V E fin o pc L (.int y :: .int x :: st) X := by
  obtain ⟨p, l, e, R, s, m, args, below, meth, c, nL, A, Qc, res⟩ := E
  obtain ⟨hx, hb, ⟨hml, hnL⟩, hown, hts, hlk, hrt, hR, hK, hA, hSt, hq⟩ := hE
  obtain ⟨hd, rfl⟩ := hd
  intro ho H locs ls hP hD hS hl
  exact lv_iand hx hb hd (k ho H locs ls hP hD hS hl)
theorem J_ior (hE : JOk V E cc own n d ret enc) {x y : Int32} (hd : jd cc pc .ior 1 pc')  (k : J V E fin o pc' L (.int (x ||| y) :: st) X) : J V E fin o pc L (.int y :: .int x :: st) X := by
  obtain ⟨p, l, e, R, s, m, args, below, meth, c, nL, A, Qc, res⟩ := E
  obtain ⟨hx, hb, ⟨hml, hnL⟩, hown, hts, hlk, hrt, hR, hK, hA, hSt, hq⟩ := hE
  obtain ⟨hd, rfl⟩ := hd
  intro ho H locs ls hP hD hS hl
  exact lv_ior hx hb hd (k ho H locs ls hP hD hS hl)
theorem J_ixor (hE : JOk V E cc own n d ret enc) {x y : Int32} (hd : jd cc pc .ixor 1 pc')  (k : J V E fin o pc' L (.int (x ^^^ y) :: st) X) : J V E fin o pc L (.int y :: .int x :: st) X := by
  obtain ⟨p, l, e, R, s, m, args, below, meth, c, nL, A, Qc, res⟩ := E
  obtain ⟨hx, hb, ⟨hml, hnL⟩, hown, hts, hlk, hrt, hR, hK, hA, hSt, hq⟩ := hE
  obtain ⟨hd, rfl⟩ := hd
  intro ho H locs ls hP hD hS hl
  exact lv_ixor hx hb hd (k ho H locs ls hP hD hS hl)
theorem J_ishl (hE : JOk V E cc own n d ret enc) {x y : Int32} (hd : jd cc pc .ishl 1 pc')  (k : J V E fin o pc' L (.int (x <<< (y &&& 31)) :: st) X) : J V E fin o pc L (.int y :: .int x :: st) X := by
  obtain ⟨p, l, e, R, s, m, args, below, meth, c, nL, A, Qc, res⟩ := E
  obtain ⟨hx, hb, ⟨hml, hnL⟩, hown, hts, hlk, hrt, hR, hK, hA, hSt, hq⟩ := hE
  obtain ⟨hd, rfl⟩ := hd
  intro ho H locs ls hP hD hS hl
  exact lv_ishl hx hb hd (k ho H locs ls hP hD hS hl)
theorem J_ishr (hE : JOk V E cc own n d ret enc) {x y : Int32} (hd : jd cc pc .ishr 1 pc')  (k : J V E fin o pc' L (.int (x >>> (y &&& 31)) :: st) X) : J V E fin o pc L (.int y :: .int x :: st) X := by
  obtain ⟨p, l, e, R, s, m, args, below, meth, c, nL, A, Qc, res⟩ := E
  obtain ⟨hx, hb, ⟨hml, hnL⟩, hown, hts, hlk, hrt, hR, hK, hA, hSt, hq⟩ := hE
  obtain ⟨hd, rfl⟩ := hd
  intro ho H locs ls hP hD hS hl
  exact lv_ishr hx hb hd (k ho H locs ls hP hD hS hl)
theorem J_iushr (hE : JOk V E cc own n d ret enc) {x y : Int32} (hd : jd cc pc .iushr 1 pc')  (k : J V E fin o pc' L (.int (x.toUInt32 >>> (y.toUInt32 &&& Int32.toUInt32 31)).toInt32 :: st) X) : J V E fin o pc L (.int y :: .int x :: st) X := by
  obtain ⟨p, l, e, R, s, m, args, below, meth, c, nL, A, Qc, res⟩ := E
  obtain ⟨hx, hb, ⟨hml, hnL⟩, hown, hts, hlk, hrt, hR, hK, hA, hSt, hq⟩ := hE
  obtain ⟨hd, rfl⟩ := hd
  intro ho H locs ls hP hD hS hl
  exact lv_iushr hx hb hd rfl (k ho H locs ls hP hD hS hl)
theorem J_ladd (hE : JOk V E cc own n d ret enc) {x y : Int64} (hd : jd cc pc .ladd 1 pc')  (k : J V E fin o pc' L (.long (x + y) :: st) X) : J V E fin o pc L (.long y :: .long x :: st) X := by
  obtain ⟨p, l, e, R, s, m, args, below, meth, c, nL, A, Qc, res⟩ := E
  obtain ⟨hx, hb, ⟨hml, hnL⟩, hown, hts, hlk, hrt, hR, hK, hA, hSt, hq⟩ := hE
  obtain ⟨hd, rfl⟩ := hd
  intro ho H locs ls hP hD hS hl
  exact lv_ladd hx hb hd (k ho H locs ls hP hD hS hl)
theorem J_lsub (hE : JOk V E cc own n d ret enc) {x y : Int64} (hd : jd cc pc .lsub 1 pc')  (k : J V E fin o pc' L (.long (x - y) :: st) X) : J V E fin o pc L (.long y :: .long x :: st) X := by
  obtain ⟨p, l, e, R, s, m, args, below, meth, c, nL, A, Qc, res⟩ := E
  obtain ⟨hx, hb, ⟨hml, hnL⟩, hown, hts, hlk, hrt, hR, hK, hA, hSt, hq⟩ := hE
  obtain ⟨hd, rfl⟩ := hd
  intro ho H locs ls hP hD hS hl
  exact lv_lsub hx hb hd (k ho H locs ls hP hD hS hl)
theorem J_lmul (hE : JOk V E cc own n d ret enc) {x y : Int64} (hd : jd cc pc .lmul 1 pc')  (k : J V E fin o pc' L (.long (x * y) :: st) X) : J V E fin o pc L (.long y :: .long x :: st) X := by
  obtain ⟨p, l, e, R, s, m, args, below, meth, c, nL, A, Qc, res⟩ := E
  obtain ⟨hx, hb, ⟨hml, hnL⟩, hown, hts, hlk, hrt, hR, hK, hA, hSt, hq⟩ := hE
  obtain ⟨hd, rfl⟩ := hd
  intro ho H locs ls hP hD hS hl
  exact lv_lmul hx hb hd (k ho H locs ls hP hD hS hl)
theorem J_i2l (hE : JOk V E cc own n d ret enc) {x : Int32} (hd : jd cc pc .i2l 1 pc')  (k : J V E fin o pc' L (.long x.toInt64 :: st) X) : J V E fin o pc L (.int x :: st) X := by
  obtain ⟨p, l, e, R, s, m, args, below, meth, c, nL, A, Qc, res⟩ := E
  obtain ⟨hx, hb, ⟨hml, hnL⟩, hown, hts, hlk, hrt, hR, hK, hA, hSt, hq⟩ := hE
  obtain ⟨hd, rfl⟩ := hd
  intro ho H locs ls hP hD hS hl
  exact lv_i2l hx hb hd rfl (k ho H locs ls hP hD hS hl)
theorem J_i2b (hE : JOk V E cc own n d ret enc) {x : Int32} (hd : jd cc pc .i2b 1 pc')  (k : J V E fin o pc' L (.int x.toInt8.toInt32 :: st) X) : J V E fin o pc L (.int x :: st) X := by
  obtain ⟨p, l, e, R, s, m, args, below, meth, c, nL, A, Qc, res⟩ := E
  obtain ⟨hx, hb, ⟨hml, hnL⟩, hown, hts, hlk, hrt, hR, hK, hA, hSt, hq⟩ := hE
  obtain ⟨hd, rfl⟩ := hd
  intro ho H locs ls hP hD hS hl
  exact lv_i2b hx hb hd rfl (k ho H locs ls hP hD hS hl)
theorem J_i2s (hE : JOk V E cc own n d ret enc) {x : Int32} (hd : jd cc pc .i2s 1 pc')  (k : J V E fin o pc' L (.int x.toInt16.toInt32 :: st) X) : J V E fin o pc L (.int x :: st) X := by
  obtain ⟨p, l, e, R, s, m, args, below, meth, c, nL, A, Qc, res⟩ := E
  obtain ⟨hx, hb, ⟨hml, hnL⟩, hown, hts, hlk, hrt, hR, hK, hA, hSt, hq⟩ := hE
  obtain ⟨hd, rfl⟩ := hd
  intro ho H locs ls hP hD hS hl
  exact lv_i2s hx hb hd rfl (k ho H locs ls hP hD hS hl)
theorem J_lcmp (hE : JOk V E cc own n d ret enc) {x y : Int64} (hd : jd cc pc .lcmp 1 pc')  (k : J V E fin o pc' L (.int (lg_cmp x y) :: st) X) : J V E fin o pc L (.long y :: .long x :: st) X := by
  obtain ⟨p, l, e, R, s, m, args, below, meth, c, nL, A, Qc, res⟩ := E
  obtain ⟨hx, hb, ⟨hml, hnL⟩, hown, hts, hlk, hrt, hR, hK, hA, hSt, hq⟩ := hE
  obtain ⟨hd, rfl⟩ := hd
  intro ho H locs ls hP hD hS hl
  exact W.lcmp hx hb hd (k ho H locs ls hP hD hS hl)
theorem J_dup (hE : JOk V E cc own n d ret enc) {v : Value} (hd : jd cc pc .dup 1 pc') (hc : v.category = 1) (k : J V E fin o pc' L (v :: v :: st) X) : J V E fin o pc L (v :: st) X := by
  obtain ⟨p, l, e, R, s, m, args, below, meth, c, nL, A, Qc, res⟩ := E
  obtain ⟨hx, hb, ⟨hml, hnL⟩, hown, hts, hlk, hrt, hR, hK, hA, hSt, hq⟩ := hE
  obtain ⟨hd, rfl⟩ := hd
  intro ho H locs ls hP hD hS hl
  exact lv_dup hx hb hd hc (k ho H locs ls hP hD hS hl)
theorem J_dup2 (hE : JOk V E cc own n d ret enc) {v w : Value} (hd : jd cc pc .dup2 1 pc') (hc : v.category = 1) (hc2 : w.category = 1) (k : J V E fin o pc' L (v :: w :: v :: w :: st) X) : J V E fin o pc L (v :: w :: st) X := by
  obtain ⟨p, l, e, R, s, m, args, below, meth, c, nL, A, Qc, res⟩ := E
  obtain ⟨hx, hb, ⟨hml, hnL⟩, hown, hts, hlk, hrt, hR, hK, hA, hSt, hq⟩ := hE
  obtain ⟨hd, rfl⟩ := hd
  intro ho H locs ls hP hD hS hl
  exact lv_dup2_11 hx hb hd hc hc2 (k ho H locs ls hP hD hS hl)
theorem J_dup_x1 (hE : JOk V E cc own n d ret enc) {v w : Value} (hd : jd cc pc .dup_x1 1 pc') (hc : v.category = 1) (hc2 : w.category = 1) (k : J V E fin o pc' L (v :: w :: v :: st) X) : J V E fin o pc L (v :: w :: st) X := by
  obtain ⟨p, l, e, R, s, m, args, below, meth, c, nL, A, Qc, res⟩ := E
  obtain ⟨hx, hb, ⟨hml, hnL⟩, hown, hts, hlk, hrt, hR, hK, hA, hSt, hq⟩ := hE
  obtain ⟨hd, rfl⟩ := hd
  intro ho H locs ls hP hD hS hl
  exact lv_dup_x1 hx hb hd hc hc2 (k ho H locs ls hP hD hS hl)
theorem J_pop (hE : JOk V E cc own n d ret enc) {v : Value} (hd : jd cc pc .pop 1 pc') (hc : v.category = 1) (k : J V E fin o pc' L (st) X) : J V E fin o pc L (v :: st) X := by
  obtain ⟨p, l, e, R, s, m, args, below, meth, c, nL, A, Qc, res⟩ := E
  obtain ⟨hx, hb, ⟨hml, hnL⟩, hown, hts, hlk, hrt, hR, hK, hA, hSt, hq⟩ := hE
  obtain ⟨hd, rfl⟩ := hd
  intro ho H locs ls hP hD hS hl
  exact lv_pop hx hb hd hc (k ho H locs ls hP hD hS hl)
theorem J_idiv (hE : JOk V E cc own n d ret enc) {x y : Int32} (hd : jd cc pc .idiv 1 pc') (k : ¬ y = 0 → J V E fin o pc' L (.int (x / y) :: st) X) : J V E fin (if y = 0 then none else o) pc L (.int y :: .int x :: st) X := by
  obtain ⟨p, l, e, R, s, m, args, below, meth, c, nL, A, Qc, res⟩ := E
  obtain ⟨hx, hb, ⟨hml, hnL⟩, hown, hts, hlk, hrt, hR, hK, hA, hSt, hq⟩ := hE
  obtain ⟨hd, rfl⟩ := hd
  intro ho H locs ls hP hD hS hl
  by_cases h : y = 0
  · rw [if_pos h] at ho
    exact absurd ho (by simp)
  · rw [if_neg h] at ho
    exact lv_idiv hx hb hd h (k h ho H locs ls hP hD hS hl)
theorem J_irem (hE : JOk V E cc own n d ret enc) {x y : Int32} (hd : jd cc pc .irem 1 pc') (k : ¬ y = 0 → J V E fin o pc' L (.int (x - x / y * y) :: st) X) : J V E fin (if y = 0 then none else o) pc L (.int y :: .int x :: st) X := by
  obtain ⟨p, l, e, R, s, m, args, below, meth, c, nL, A, Qc, res⟩ := E
  obtain ⟨hx, hb, ⟨hml, hnL⟩, hown, hts, hlk, hrt, hR, hK, hA, hSt, hq⟩ := hE
  obtain ⟨hd, rfl⟩ := hd
  intro ho H locs ls hP hD hS hl
  by_cases h : y = 0
  · rw [if_pos h] at ho
    exact absurd ho (by simp)
  · rw [if_neg h] at ho
    exact lv_irem hx hb hd h (k h ho H locs ls hP hD hS hl)
theorem J_ldiv (hE : JOk V E cc own n d ret enc) {x y : Int64} (hd : jd cc pc .ldiv 1 pc') (k : ¬ y = 0 → J V E fin o pc' L (.long (x / y) :: st) X) : J V E fin (if y = 0 then none else o) pc L (.long y :: .long x :: st) X := by
  obtain ⟨p, l, e, R, s, m, args, below, meth, c, nL, A, Qc, res⟩ := E
  obtain ⟨hx, hb, ⟨hml, hnL⟩, hown, hts, hlk, hrt, hR, hK, hA, hSt, hq⟩ := hE
  obtain ⟨hd, rfl⟩ := hd
  intro ho H locs ls hP hD hS hl
  by_cases h : y = 0
  · rw [if_pos h] at ho
    exact absurd ho (by simp)
  · rw [if_neg h] at ho
    exact lv_ldiv hx hb hd h (k h ho H locs ls hP hD hS hl)
theorem J_lrem (hE : JOk V E cc own n d ret enc) {x y : Int64} (hd : jd cc pc .lrem 1 pc') (k : ¬ y = 0 → J V E fin o pc' L (.long (x - x / y * y) :: st) X) : J V E fin (if y = 0 then none else o) pc L (.long y :: .long x :: st) X := by
  obtain ⟨p, l, e, R, s, m, args, below, meth, c, nL, A, Qc, res⟩ := E
  obtain ⟨hx, hb, ⟨hml, hnL⟩, hown, hts, hlk, hrt, hR, hK, hA, hSt, hq⟩ := hE
  obtain ⟨hd, rfl⟩ := hd
  intro ho H locs ls hP hD hS hl
  by_cases h : y = 0
  · rw [if_pos h] at ho
    exact absurd ho (by simp)
  · rw [if_neg h] at ho
    exact lv_lrem hx hb hd h (k h ho H locs ls hP hD hS hl)
theorem J_icmp_eq (hE : JOk V E cc own n d ret enc) {x y : Int32} {z : Int} {tgt : Nat} {ot of : Option α} (hd : jd cc pc (.if_icmp .eq z) 3 pc') (ht : (pc : Int) + z = (tgt : Int)) (kt : x = y → J V E fin ot tgt L st X) (kf : ¬ (x = y) → J V E fin of pc' L st X) : J V E fin (if x = y then ot else of) pc L (.int y :: .int x :: st) X := by
  obtain ⟨p, l, e, R, s, m, args, below, meth, c, nL, A, Qc, res⟩ := E
  obtain ⟨hx, hb, ⟨hml, hnL⟩, hown, hts, hlk, hrt, hR, hK, hA, hSt, hq⟩ := hE
  obtain ⟨hd, rfl⟩ := hd
  intro ho H locs ls hP hD hS hl
  exact lv_icmp_eq hx hb hd ht (fun q => kt q (by rw [if_pos q] at ho; exact ho) H locs ls hP hD hS hl) (fun q => kf q (by rw [if_neg q] at ho; exact ho) H locs ls hP hD hS hl)
theorem J_if_eq (hE : JOk V E cc own n d ret enc) {x : Int32} {z : Int} {tgt : Nat} {ot of : Option α} (hd : jd cc pc (.ifCond .eq z) 3 pc') (ht : (pc : Int) + z = (tgt : Int)) (kt : x = 0 → J V E fin ot tgt L st X) (kf : ¬ (x = 0) → J V E fin of pc' L st X) : J V E fin (if x = 0 then ot else of) pc L (.int x :: st) X := by
  obtain ⟨p, l, e, R, s, m, args, below, meth, c, nL, A, Qc, res⟩ := E
  obtain ⟨hx, hb, ⟨hml, hnL⟩, hown, hts, hlk, hrt, hR, hK, hA, hSt, hq⟩ := hE
  obtain ⟨hd, rfl⟩ := hd
  intro ho H locs ls hP hD hS hl
  exact lv_if_eq hx hb hd ht (fun q => kt q (by rw [if_pos q] at ho; exact ho) H locs ls hP hD hS hl) (fun q => kf q (by rw [if_neg q] at ho; exact ho) H locs ls hP hD hS hl)
theorem J_icmp_ne (hE : JOk V E cc own n d ret enc) {x y : Int32} {z : Int} {tgt : Nat} {ot of : Option α} (hd : jd cc pc (.if_icmp .ne z) 3 pc') (ht : (pc : Int) + z = (tgt : Int)) (kt : ¬ x = y → J V E fin ot tgt L st X) (kf : x = y → J V E fin of pc' L st X) : J V E fin (if x = y then of else ot) pc L (.int y :: .int x :: st) X := by
  obtain ⟨p, l, e, R, s, m, args, below, meth, c, nL, A, Qc, res⟩ := E
  obtain ⟨hx, hb, ⟨hml, hnL⟩, hown, hts, hlk, hrt, hR, hK, hA, hSt, hq⟩ := hE
  obtain ⟨hd, rfl⟩ := hd
  intro ho H locs ls hP hD hS hl
  exact lv_icmp_ne hx hb hd ht (fun q => kt q (by rw [if_neg q] at ho; exact ho) H locs ls hP hD hS hl) (fun q => kf q (by rw [if_pos q] at ho; exact ho) H locs ls hP hD hS hl)
theorem J_if_ne (hE : JOk V E cc own n d ret enc) {x : Int32} {z : Int} {tgt : Nat} {ot of : Option α} (hd : jd cc pc (.ifCond .ne z) 3 pc') (ht : (pc : Int) + z = (tgt : Int)) (kt : ¬ x = 0 → J V E fin ot tgt L st X) (kf : x = 0 → J V E fin of pc' L st X) : J V E fin (if x = 0 then of else ot) pc L (.int x :: st) X := by
  obtain ⟨p, l, e, R, s, m, args, below, meth, c, nL, A, Qc, res⟩ := E
  obtain ⟨hx, hb, ⟨hml, hnL⟩, hown, hts, hlk, hrt, hR, hK, hA, hSt, hq⟩ := hE
  obtain ⟨hd, rfl⟩ := hd
  intro ho H locs ls hP hD hS hl
  exact lv_if_ne hx hb hd ht (fun q => kt q (by rw [if_neg q] at ho; exact ho) H locs ls hP hD hS hl) (fun q => kf q (by rw [if_pos q] at ho; exact ho) H locs ls hP hD hS hl)
theorem J_icmp_lt (hE : JOk V E cc own n d ret enc) {x y : Int32} {z : Int} {tgt : Nat} {ot of : Option α} (hd : jd cc pc (.if_icmp .lt z) 3 pc') (ht : (pc : Int) + z = (tgt : Int)) (kt : x < y → J V E fin ot tgt L st X) (kf : ¬ (x < y) → J V E fin of pc' L st X) : J V E fin (if x < y then ot else of) pc L (.int y :: .int x :: st) X := by
  obtain ⟨p, l, e, R, s, m, args, below, meth, c, nL, A, Qc, res⟩ := E
  obtain ⟨hx, hb, ⟨hml, hnL⟩, hown, hts, hlk, hrt, hR, hK, hA, hSt, hq⟩ := hE
  obtain ⟨hd, rfl⟩ := hd
  intro ho H locs ls hP hD hS hl
  exact lv_icmp_lt hx hb hd ht (fun q => kt q (by rw [if_pos q] at ho; exact ho) H locs ls hP hD hS hl) (fun q => kf q (by rw [if_neg q] at ho; exact ho) H locs ls hP hD hS hl)
theorem J_if_lt (hE : JOk V E cc own n d ret enc) {x : Int32} {z : Int} {tgt : Nat} {ot of : Option α} (hd : jd cc pc (.ifCond .lt z) 3 pc') (ht : (pc : Int) + z = (tgt : Int)) (kt : x < 0 → J V E fin ot tgt L st X) (kf : ¬ (x < 0) → J V E fin of pc' L st X) : J V E fin (if x < 0 then ot else of) pc L (.int x :: st) X := by
  obtain ⟨p, l, e, R, s, m, args, below, meth, c, nL, A, Qc, res⟩ := E
  obtain ⟨hx, hb, ⟨hml, hnL⟩, hown, hts, hlk, hrt, hR, hK, hA, hSt, hq⟩ := hE
  obtain ⟨hd, rfl⟩ := hd
  intro ho H locs ls hP hD hS hl
  exact lv_if_lt hx hb hd ht (fun q => kt q (by rw [if_pos q] at ho; exact ho) H locs ls hP hD hS hl) (fun q => kf q (by rw [if_neg q] at ho; exact ho) H locs ls hP hD hS hl)
theorem J_icmp_ge (hE : JOk V E cc own n d ret enc) {x y : Int32} {z : Int} {tgt : Nat} {ot of : Option α} (hd : jd cc pc (.if_icmp .ge z) 3 pc') (ht : (pc : Int) + z = (tgt : Int)) (kt : y ≤ x → J V E fin ot tgt L st X) (kf : ¬ (y ≤ x) → J V E fin of pc' L st X) : J V E fin (if y ≤ x then ot else of) pc L (.int y :: .int x :: st) X := by
  obtain ⟨p, l, e, R, s, m, args, below, meth, c, nL, A, Qc, res⟩ := E
  obtain ⟨hx, hb, ⟨hml, hnL⟩, hown, hts, hlk, hrt, hR, hK, hA, hSt, hq⟩ := hE
  obtain ⟨hd, rfl⟩ := hd
  intro ho H locs ls hP hD hS hl
  exact lv_icmp_ge hx hb hd ht (fun q => kt q (by rw [if_pos q] at ho; exact ho) H locs ls hP hD hS hl) (fun q => kf q (by rw [if_neg q] at ho; exact ho) H locs ls hP hD hS hl)
theorem J_if_ge (hE : JOk V E cc own n d ret enc) {x : Int32} {z : Int} {tgt : Nat} {ot of : Option α} (hd : jd cc pc (.ifCond .ge z) 3 pc') (ht : (pc : Int) + z = (tgt : Int)) (kt : 0 ≤ x → J V E fin ot tgt L st X) (kf : ¬ (0 ≤ x) → J V E fin of pc' L st X) : J V E fin (if 0 ≤ x then ot else of) pc L (.int x :: st) X := by
  obtain ⟨p, l, e, R, s, m, args, below, meth, c, nL, A, Qc, res⟩ := E
  obtain ⟨hx, hb, ⟨hml, hnL⟩, hown, hts, hlk, hrt, hR, hK, hA, hSt, hq⟩ := hE
  obtain ⟨hd, rfl⟩ := hd
  intro ho H locs ls hP hD hS hl
  exact lv_if_ge hx hb hd ht (fun q => kt q (by rw [if_pos q] at ho; exact ho) H locs ls hP hD hS hl) (fun q => kf q (by rw [if_neg q] at ho; exact ho) H locs ls hP hD hS hl)
theorem J_icmp_gt (hE : JOk V E cc own n d ret enc) {x y : Int32} {z : Int} {tgt : Nat} {ot of : Option α} (hd : jd cc pc (.if_icmp .gt z) 3 pc') (ht : (pc : Int) + z = (tgt : Int)) (kt : y < x → J V E fin ot tgt L st X) (kf : ¬ (y < x) → J V E fin of pc' L st X) : J V E fin (if y < x then ot else of) pc L (.int y :: .int x :: st) X := by
  obtain ⟨p, l, e, R, s, m, args, below, meth, c, nL, A, Qc, res⟩ := E
  obtain ⟨hx, hb, ⟨hml, hnL⟩, hown, hts, hlk, hrt, hR, hK, hA, hSt, hq⟩ := hE
  obtain ⟨hd, rfl⟩ := hd
  intro ho H locs ls hP hD hS hl
  exact lv_icmp_gt hx hb hd ht (fun q => kt q (by rw [if_pos q] at ho; exact ho) H locs ls hP hD hS hl) (fun q => kf q (by rw [if_neg q] at ho; exact ho) H locs ls hP hD hS hl)
theorem J_if_gt (hE : JOk V E cc own n d ret enc) {x : Int32} {z : Int} {tgt : Nat} {ot of : Option α} (hd : jd cc pc (.ifCond .gt z) 3 pc') (ht : (pc : Int) + z = (tgt : Int)) (kt : 0 < x → J V E fin ot tgt L st X) (kf : ¬ (0 < x) → J V E fin of pc' L st X) : J V E fin (if 0 < x then ot else of) pc L (.int x :: st) X := by
  obtain ⟨p, l, e, R, s, m, args, below, meth, c, nL, A, Qc, res⟩ := E
  obtain ⟨hx, hb, ⟨hml, hnL⟩, hown, hts, hlk, hrt, hR, hK, hA, hSt, hq⟩ := hE
  obtain ⟨hd, rfl⟩ := hd
  intro ho H locs ls hP hD hS hl
  exact lv_if_gt hx hb hd ht (fun q => kt q (by rw [if_pos q] at ho; exact ho) H locs ls hP hD hS hl) (fun q => kf q (by rw [if_neg q] at ho; exact ho) H locs ls hP hD hS hl)
theorem J_icmp_le (hE : JOk V E cc own n d ret enc) {x y : Int32} {z : Int} {tgt : Nat} {ot of : Option α} (hd : jd cc pc (.if_icmp .le z) 3 pc') (ht : (pc : Int) + z = (tgt : Int)) (kt : x ≤ y → J V E fin ot tgt L st X) (kf : ¬ (x ≤ y) → J V E fin of pc' L st X) : J V E fin (if x ≤ y then ot else of) pc L (.int y :: .int x :: st) X := by
  obtain ⟨p, l, e, R, s, m, args, below, meth, c, nL, A, Qc, res⟩ := E
  obtain ⟨hx, hb, ⟨hml, hnL⟩, hown, hts, hlk, hrt, hR, hK, hA, hSt, hq⟩ := hE
  obtain ⟨hd, rfl⟩ := hd
  intro ho H locs ls hP hD hS hl
  exact lv_icmp_le hx hb hd ht (fun q => kt q (by rw [if_pos q] at ho; exact ho) H locs ls hP hD hS hl) (fun q => kf q (by rw [if_neg q] at ho; exact ho) H locs ls hP hD hS hl)
theorem J_if_le (hE : JOk V E cc own n d ret enc) {x : Int32} {z : Int} {tgt : Nat} {ot of : Option α} (hd : jd cc pc (.ifCond .le z) 3 pc') (ht : (pc : Int) + z = (tgt : Int)) (kt : x ≤ 0 → J V E fin ot tgt L st X) (kf : ¬ (x ≤ 0) → J V E fin of pc' L st X) : J V E fin (if x ≤ 0 then ot else of) pc L (.int x :: st) X := by
  obtain ⟨p, l, e, R, s, m, args, below, meth, c, nL, A, Qc, res⟩ := E
  obtain ⟨hx, hb, ⟨hml, hnL⟩, hown, hts, hlk, hrt, hR, hK, hA, hSt, hq⟩ := hE
  obtain ⟨hd, rfl⟩ := hd
  intro ho H locs ls hP hD hS hl
  exact lv_if_le hx hb hd ht (fun q => kt q (by rw [if_pos q] at ho; exact ho) H locs ls hP hD hS hl) (fun q => kf q (by rw [if_neg q] at ho; exact ho) H locs ls hP hD hS hl)
theorem J_goto (hE : JOk V E cc own n d ret enc) {z : Int} {tgt : Nat} (hd : jd cc pc (.goto z) 3 pc') (ht : (pc : Int) + z = (tgt : Int)) (k : J V E fin o tgt L st X) : J V E fin o pc L st X := by
  obtain ⟨p, l, e, R, s, m, args, below, meth, c, nL, A, Qc, res⟩ := E
  obtain ⟨hx, hb, ⟨hml, hnL⟩, hown, hts, hlk, hrt, hR, hK, hA, hSt, hq⟩ := hE
  obtain ⟨hd, rfl⟩ := hd
  intro ho H locs ls hP hD hS hl
  exact lv_goto hx hb hd ht (k ho H locs ls hP hD hS hl)
theorem J_tsIn (hE : JOk V E cc own n d ret enc) {dflt lo hi : Int} {offs : Array Int} {len : Nat} {x : Int32} {off : Int} {tgt : Nat} (hd : jd cc pc (.tableswitch dflt lo hi offs) len pc') (h1 : ¬ x.toInt < lo) (h2 : ¬ hi < x.toInt) (ho : offs[(x.toInt - lo).toNat]? = some off) (ht : (pc : Int) + off = (tgt : Int)) (k : J V E fin o tgt L st X) : J V E fin o pc L (.int x :: st) X := by
  obtain ⟨p, l, e, R, s, m, args, below, meth, c, nL, A, Qc, res⟩ := E
  obtain ⟨hx, hb, ⟨hml, hnL⟩, hown, hts, hlk, hrt, hR, hK, hA, hSt, hq⟩ := hE
  obtain ⟨hd, rfl⟩ := hd
  intro hoo H locs ls hP hD hS hl
  exact lv_tableIn hx hb hd h1 h2 ho ht (k hoo H locs ls hP hD hS hl)
theorem J_tsOut (hE : JOk V E cc own n d ret enc) {dflt lo hi : Int} {offs : Array Int} {len : Nat} {x : Int32} {tgt : Nat} (hd : jd cc pc (.tableswitch dflt lo hi offs) len pc') (h : x.toInt < lo ∨ hi < x.toInt) (ht : (pc : Int) + dflt = (tgt : Int)) (k : J V E fin o tgt L st X) : J V E fin o pc L (.int x :: st) X := by
  obtain ⟨p, l, e, R, s, m, args, below, meth, c, nL, A, Qc, res⟩ := E
  obtain ⟨hx, hb, ⟨hml, hnL⟩, hown, hts, hlk, hrt, hR, hK, hA, hSt, hq⟩ := hE
  obtain ⟨hd, rfl⟩ := hd
  intro hoo H locs ls hP hD hS hl
  exact lv_tableOut hx hb hd h ht (k hoo H locs ls hP hD hS hl)
theorem J_lsw (hE : JOk V E cc own n d ret enc) {dflt : Int} {ps : Array (Int × Int)} {len : Nat} {x : Int32} {off : Int} {tgt : Nat} (hd : jd cc pc (.lookupswitch dflt ps) len pc') (hp : (ps.toList.zip (ps.toList.drop 1)).all (fun (a, next) => a.1 < next.1) = true) (hof : Op.lookupswitch.offset ps.toList dflt x.toInt = off) (ht : (pc : Int) + off = (tgt : Int)) (k : J V E fin o tgt L st X) : J V E fin o pc L (.int x :: st) X := by
  obtain ⟨p, l, e, R, s, m, args, below, meth, c, nL, A, Qc, res⟩ := E
  obtain ⟨hx, hb, ⟨hml, hnL⟩, hown, hts, hlk, hrt, hR, hK, hA, hSt, hq⟩ := hE
  obtain ⟨hd, rfl⟩ := hd
  intro hoo H locs ls hP hD hS hl
  exact lv_lookup hx hb hd hp hof ht (k hoo H locs ls hP hD hS hl)
theorem J_iret (hE : JOk V E cc own n d (some .int) enc) {r : α} {v : Int32} (hd : jd cc pc .ireturn 1 pc') (hr : enc (fin r).1 = some (.int v)) (hX : (fin r).2 = X) : J V E fin (some r) pc L [.int v] X := by
  obtain ⟨p, l, e, R, s, m, args, below, meth, c, nL, A, Qc, res⟩ := E
  obtain ⟨hx, hb, ⟨hml, hnL⟩, hown, hts, hlk, hrt, hR, hK, hA, hSt, hq⟩ := hE
  obtain ⟨hd, rfl⟩ := hd
  intro ho H locs ls hP hD hS hl
  have hr0 : fin r = res := Option.some.inj ho
  subst hr0
  subst hX
  exact W.iret hx hb hrt (fun t ht hW => by rw [← hr]; exact hq t (by rw [ht]; exact hP) hD (hS.F ht) hW) hS.2.2 hd hlk
theorem J_zret (hE : JOk V E cc own n d (some .boolean) enc) {r : α} {v : Int32} (hz : v = 0 ∨ v = 1) (hd : jd cc pc .ireturn 1 pc') (hr : enc (fin r).1 = some (.int v)) (hX : (fin r).2 = X) : J V E fin (some r) pc L [.int v] X := by
  obtain ⟨p, l, e, R, s, m, args, below, meth, c, nL, A, Qc, res⟩ := E
  obtain ⟨hx, hb, ⟨hml, hnL⟩, hown, hts, hlk, hrt, hR, hK, hA, hSt, hq⟩ := hE
  obtain ⟨hd, rfl⟩ := hd
  intro ho H locs ls hP hD hS hl
  have hr0 : fin r = res := Option.some.inj ho
  subst hr0
  subst hX
  exact W.zret hx hb hrt (by rcases hz with rfl | rfl <;> rfl) (fun t ht hW => by rw [← hr]; exact hq t (by rw [ht]; exact hP) hD (hS.F ht) hW) hS.2.2 hd hlk
theorem J_lret (hE : JOk V E cc own n d (some .long) enc) {r : α} {v : Int64} (hd : jd cc pc .lreturn 1 pc') (hr : enc (fin r).1 = some (.long v)) (hX : (fin r).2 = X) : J V E fin (some r) pc L [.long v] X := by
  obtain ⟨p, l, e, R, s, m, args, below, meth, c, nL, A, Qc, res⟩ := E
  obtain ⟨hx, hb, ⟨hml, hnL⟩, hown, hts, hlk, hrt, hR, hK, hA, hSt, hq⟩ := hE
  obtain ⟨hd, rfl⟩ := hd
  intro ho H locs ls hP hD hS hl
  have hr0 : fin r = res := Option.some.inj ho
  subst hr0
  subst hX
  exact W.lret hx hb hrt (fun t ht hW => by rw [← hr]; exact hq t (by rw [ht]; exact hP) hD (hS.F ht) hW) hS.2.2 hd hlk
theorem J_vret (hE : JOk V E cc own n d none enc) {r : α} (hd : jd cc pc .return_ 1 pc') (hr : enc (fin r).1 = none) (hX : (fin r).2 = X) : J V E fin (some r) pc L [] X := by
  obtain ⟨p, l, e, R, s, m, args, below, meth, c, nL, A, Qc, res⟩ := E
  obtain ⟨hx, hb, ⟨hml, hnL⟩, hown, hts, hlk, hrt, hR, hK, hA, hSt, hq⟩ := hE
  obtain ⟨hd, rfl⟩ := hd
  intro ho H locs ls hP hD hS hl
  have hr0 : fin r = res := Option.some.inj ho
  subst hr0
  subst hX
  exact W.vret hx hb hrt (fun t ht hW => by rw [← hr]; exact hq t (by rw [ht]; exact hP) hD (hS.F ht) hW) hS.2.2 hd hlk
theorem J_ite {c : Prop} {dc : Decidable c} {o1 o2 : Option α} (h1 : c → J V E fin o1 pc L st X) (h2 : ¬ c → J V E fin o2 pc L st X) : J V E fin (@ite _ c dc o1 o2) pc L st X := by
  by_cases h : c
  · rw [if_pos h]; exact h1 h
  · rw [if_neg h]; exact h2 h
theorem J_tsAt (hE : JOk V E cc own n d ret enc) {dflt lo hi : Int} {offs : Array Int} {len : Nat} {x v : Int32} {off : Int} {tgt : Nat} (hv : x = v) (hd : jd cc pc (.tableswitch dflt lo hi offs) len pc') (h1 : ¬ v.toInt < lo) (h2 : ¬ hi < v.toInt) (ho : offs[(v.toInt - lo).toNat]? = some off) (ht : (pc : Int) + off = (tgt : Int)) (k : J V E fin o tgt L st X) : J V E fin o pc L (.int x :: st) X := J_tsIn hE hd (by rw [hv]; exact h1) (by rw [hv]; exact h2) (by rw [hv]; exact ho) ht k
theorem J_lsAt (hE : JOk V E cc own n d ret enc) {dflt : Int} {ps : Array (Int × Int)} {len : Nat} {x v : Int32} {off : Int} {tgt : Nat} (hv : x = v) (hd : jd cc pc (.lookupswitch dflt ps) len pc') (hp : (ps.toList.zip (ps.toList.drop 1)).all (fun (a, next) => a.1 < next.1) = true) (hof : Op.lookupswitch.offset ps.toList dflt v.toInt = off) (ht : (pc : Int) + off = (tgt : Int)) (k : J V E fin o tgt L st X) : J V E fin o pc L (.int x :: st) X := J_lsw hE hd hp (by rw [hv]; exact hof) ht k
/-- a name for a value or a state: the pure program names it too -/
theorem J_letS {f : σ → Option α} {e : σ} (k : ∀ x, J V E fin (f x) pc L st x) : J V E fin (lt e f) pc L st e := k e
theorem J_leti {f : Int32 → Option α} {e : Int32} (k : ∀ x, J V E fin (f x) pc L (.int x :: st) X) : J V E fin (lt e f) pc L (.int e :: st) X := k e
theorem J_letl {f : Int64 → Option α} {e : Int64} (k : ∀ x, J V E fin (f x) pc L (.long x :: st) X) : J V E fin (lt e f) pc L (.long e :: st) X := k e
theorem J_iincL (hE : JOk V E cc own n d ret enc) {i j : Nat} {z : Int} {x v : Int32} {Lf : Int32 → List (Nat × Value)} {f : Int32 → Option α} (hd : jd cc pc (.iinc i z) 3 pc') (hk : L[j]? = some (i, .int x)) (hv : x + Int32.ofInt z = v) (hn : i < n) (hL : ∀ v : Int32, (i, Value.int v) :: L.filter (fun q => !(q.1 == i) && !(q.1 + 1 == i && q.2.category == 2)) = Lf v) (k : ∀ v : Int32, J V E fin (f v) pc' (Lf v) st X) : J V E fin (lt v f) pc L st X := J_iinc hE hd hk hv hn (hL v) (k v)
theorem J_jn {β : Type} {body : (β → Option α) → Option α} {kk : β → Option α} {m : Nat} {Lf : β → List (Nat × Value)} {sf : β → List Value} {Xf : β → σ} (h1 : ∀ v, J V E fin (kk v) m (Lf v) (sf v) (Xf v)) (h2 : (∀ v, J V E fin (kk v) m (Lf v) (sf v) (Xf v)) → J V E fin (body kk) pc L st X) : J V E fin (jn body kk) pc L st X := h2 h1
end JR
end
