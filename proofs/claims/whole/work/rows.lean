section
-- ===== PART A: goes FIRST, ahead of the names: the tables' words, and 'selects' of the private methods out of them =====
/-- a private method of a class that the tables say can be made, by its rows of tables_1 -/
def lw_okq (q : MethodName × Nat) : Prop := (q.1.cls ≠ "java/lang/invoke/MethodHandle" ∧ q.1.cls ≠ "java/lang/invoke/VarHandle") ∧ Cond.instantiable q.1.cls q.2 ∈ tables_1 ∧ Cond.privateMethod q.1 ∈ tables_1 ∧ Cond.instanceMethod q.1 ∈ tables_1
theorem lw_p0 : lw_okq (⟨"MothCustoms$Tape", "nextToken", "()V"⟩, 11) := ⟨⟨by decide +kernel, by decide +kernel⟩, List.mem_of_getElem? (i := 23) (by decide +kernel), List.mem_of_getElem? (i := 254) (by decide +kernel), List.mem_of_getElem? (i := 255) (by decide +kernel)⟩
theorem lw_p1 : lw_okq (⟨"MothCustoms$Tape", "readName", "()V"⟩, 11) := ⟨⟨by decide +kernel, by decide +kernel⟩, List.mem_of_getElem? (i := 23) (by decide +kernel), List.mem_of_getElem? (i := 261) (by decide +kernel), List.mem_of_getElem? (i := 262) (by decide +kernel)⟩
theorem lw_p2 : lw_okq (⟨"MothCustoms$Tape", "readNumber", "()V"⟩, 11) := ⟨⟨by decide +kernel, by decide +kernel⟩, List.mem_of_getElem? (i := 23) (by decide +kernel), List.mem_of_getElem? (i := 268) (by decide +kernel), List.mem_of_getElem? (i := 269) (by decide +kernel)⟩
theorem lw_p3 : lw_okq (⟨"MothCustoms$Tape", "refuse", "(II)Z"⟩, 11) := ⟨⟨by decide +kernel, by decide +kernel⟩, List.mem_of_getElem? (i := 23) (by decide +kernel), List.mem_of_getElem? (i := 272) (by decide +kernel), List.mem_of_getElem? (i := 273) (by decide +kernel)⟩
theorem lw_p4 : lw_okq (⟨"MothCustoms$Tape", "tellLine", "(LMothCustoms$Shed;)Z"⟩, 11) := ⟨⟨by decide +kernel, by decide +kernel⟩, List.mem_of_getElem? (i := 23) (by decide +kernel), List.mem_of_getElem? (i := 276) (by decide +kernel), List.mem_of_getElem? (i := 277) (by decide +kernel)⟩
theorem lw_p5 : lw_okq (⟨"MothCustoms$Tape", "lineNamed", "()I"⟩, 11) := ⟨⟨by decide +kernel, by decide +kernel⟩, List.mem_of_getElem? (i := 23) (by decide +kernel), List.mem_of_getElem? (i := 280) (by decide +kernel), List.mem_of_getElem? (i := 281) (by decide +kernel)⟩
theorem lw_p6 : lw_okq (⟨"MothCustoms$Tape", "isName", "(Ljava/lang/String;)Z"⟩, 11) := ⟨⟨by decide +kernel, by decide +kernel⟩, List.mem_of_getElem? (i := 23) (by decide +kernel), List.mem_of_getElem? (i := 285) (by decide +kernel), List.mem_of_getElem? (i := 286) (by decide +kernel)⟩
theorem lw_p7 : lw_okq (⟨"MothCustoms$Tape", "readNumbers", "(ILMothCustoms$Shed;)Z"⟩, 11) := ⟨⟨by decide +kernel, by decide +kernel⟩, List.mem_of_getElem? (i := 23) (by decide +kernel), List.mem_of_getElem? (i := 344) (by decide +kernel), List.mem_of_getElem? (i := 345) (by decide +kernel)⟩
theorem lw_p8 : lw_okq (⟨"MothCustoms$Tape", "take", "(ILMothCustoms$Shed;)V"⟩, 11) := ⟨⟨by decide +kernel, by decide +kernel⟩, List.mem_of_getElem? (i := 23) (by decide +kernel), List.mem_of_getElem? (i := 359) (by decide +kernel), List.mem_of_getElem? (i := 360) (by decide +kernel)⟩
theorem lw_p9 : lw_okq (⟨"MothCustoms$Shed", "eatDown", "(I)V"⟩, 18) := ⟨⟨by decide +kernel, by decide +kernel⟩, List.mem_of_getElem? (i := 68) (by decide +kernel), List.mem_of_getElem? (i := 529) (by decide +kernel), List.mem_of_getElem? (i := 530) (by decide +kernel)⟩
theorem lw_p10 : lw_okq (⟨"MothCustoms", "tryNight", "(I)V"⟩, 8) := ⟨⟨by decide +kernel, by decide +kernel⟩, List.mem_of_getElem? (i := 15) (by decide +kernel), List.mem_of_getElem? (i := 557) (by decide +kernel), List.mem_of_getElem? (i := 558) (by decide +kernel)⟩
theorem lw_p11 : lw_okq (⟨"MothCustoms", "leastBy", "(ZI)I"⟩, 8) := ⟨⟨by decide +kernel, by decide +kernel⟩, List.mem_of_getElem? (i := 15) (by decide +kernel), List.mem_of_getElem? (i := 590) (by decide +kernel), List.mem_of_getElem? (i := 591) (by decide +kernel)⟩
theorem lw_p12 : lw_okq (⟨"MothCustoms", "weight", "(II)J"⟩, 8) := ⟨⟨by decide +kernel, by decide +kernel⟩, List.mem_of_getElem? (i := 15) (by decide +kernel), List.mem_of_getElem? (i := 607) (by decide +kernel), List.mem_of_getElem? (i := 608) (by decide +kernel)⟩
theorem lw_p13 : lw_okq (⟨"MothCustoms", "partOfFraction", "(JI)J"⟩, 8) := ⟨⟨by decide +kernel, by decide +kernel⟩, List.mem_of_getElem? (i := 15) (by decide +kernel), List.mem_of_getElem? (i := 611) (by decide +kernel), List.mem_of_getElem? (i := 612) (by decide +kernel)⟩
theorem lw_p14 : lw_okq (⟨"MothCustomsModel", "firstDraft", "()V"⟩, 25) := ⟨⟨by decide +kernel, by decide +kernel⟩, List.mem_of_getElem? (i := 729) (by decide +kernel), List.mem_of_getElem? (i := 735) (by decide +kernel), List.mem_of_getElem? (i := 736) (by decide +kernel)⟩
theorem lw_p15 : lw_okq (⟨"MothCustomsModel", "keepDraft", "()V"⟩, 25) := ⟨⟨by decide +kernel, by decide +kernel⟩, List.mem_of_getElem? (i := 729) (by decide +kernel), List.mem_of_getElem? (i := 739) (by decide +kernel), List.mem_of_getElem? (i := 740) (by decide +kernel)⟩
def lw_privs_1 : List (MethodName × Nat) := [(⟨"MothCustoms$Tape", "nextToken", "()V"⟩, 11), (⟨"MothCustoms$Tape", "readName", "()V"⟩, 11), (⟨"MothCustoms$Tape", "readNumber", "()V"⟩, 11), (⟨"MothCustoms$Tape", "refuse", "(II)Z"⟩, 11), (⟨"MothCustoms$Tape", "tellLine", "(LMothCustoms$Shed;)Z"⟩, 11), (⟨"MothCustoms$Tape", "lineNamed", "()I"⟩, 11), (⟨"MothCustoms$Tape", "isName", "(Ljava/lang/String;)Z"⟩, 11), (⟨"MothCustoms$Tape", "readNumbers", "(ILMothCustoms$Shed;)Z"⟩, 11), (⟨"MothCustoms$Tape", "take", "(ILMothCustoms$Shed;)V"⟩, 11), (⟨"MothCustoms$Shed", "eatDown", "(I)V"⟩, 18), (⟨"MothCustoms", "tryNight", "(I)V"⟩, 8), (⟨"MothCustoms", "leastBy", "(ZI)I"⟩, 8), (⟨"MothCustoms", "weight", "(II)J"⟩, 8), (⟨"MothCustoms", "partOfFraction", "(JI)J"⟩, 8), (⟨"MothCustomsModel", "firstDraft", "()V"⟩, 25), (⟨"MothCustomsModel", "keepDraft", "()V"⟩, 25)]
theorem lw_r1 : ∀ q ∈ lw_privs_1, lw_okq q := List.forall_mem_cons.mpr ⟨lw_p0, List.forall_mem_cons.mpr ⟨lw_p1, List.forall_mem_cons.mpr ⟨lw_p2, List.forall_mem_cons.mpr ⟨lw_p3, List.forall_mem_cons.mpr ⟨lw_p4, List.forall_mem_cons.mpr ⟨lw_p5, List.forall_mem_cons.mpr ⟨lw_p6, List.forall_mem_cons.mpr ⟨lw_p7, List.forall_mem_cons.mpr ⟨lw_p8, List.forall_mem_cons.mpr ⟨lw_p9, List.forall_mem_cons.mpr ⟨lw_p10, List.forall_mem_cons.mpr ⟨lw_p11, List.forall_mem_cons.mpr ⟨lw_p12, List.forall_mem_cons.mpr ⟨lw_p13, List.forall_mem_cons.mpr ⟨lw_p14, List.forall_mem_cons.mpr ⟨lw_p15, fun _ h => absurd h List.not_mem_nil⟩⟩⟩⟩⟩⟩⟩⟩⟩⟩⟩⟩⟩⟩⟩⟩
theorem lw_p16 : lw_okq (⟨"MothCustomsModel", "next", "()V"⟩, 25) := ⟨⟨by decide +kernel, by decide +kernel⟩, List.mem_of_getElem? (i := 729) (by decide +kernel), List.mem_of_getElem? (i := 836) (by decide +kernel), List.mem_of_getElem? (i := 837) (by decide +kernel)⟩
theorem lw_p17 : lw_okq (⟨"MothCustomsModel", "byteAt", "(I)I"⟩, 25) := ⟨⟨by decide +kernel, by decide +kernel⟩, List.mem_of_getElem? (i := 729) (by decide +kernel), List.mem_of_getElem? (i := 840) (by decide +kernel), List.mem_of_getElem? (i := 841) (by decide +kernel)⟩
theorem lw_p18 : lw_okq (⟨"MothCustomsModel", "needs", "(ZI)V"⟩, 25) := ⟨⟨by decide +kernel, by decide +kernel⟩, List.mem_of_getElem? (i := 729) (by decide +kernel), List.mem_of_getElem? (i := 848) (by decide +kernel), List.mem_of_getElem? (i := 849) (by decide +kernel)⟩
theorem lw_p19 : lw_okq (⟨"MothCustomsModel", "readLine", "()V"⟩, 25) := ⟨⟨by decide +kernel, by decide +kernel⟩, List.mem_of_getElem? (i := 729) (by decide +kernel), List.mem_of_getElem? (i := 852) (by decide +kernel), List.mem_of_getElem? (i := 853) (by decide +kernel)⟩
theorem lw_p20 : lw_okq (⟨"MothCustomsModel", "lineNow", "()I"⟩, 25) := ⟨⟨by decide +kernel, by decide +kernel⟩, List.mem_of_getElem? (i := 729) (by decide +kernel), List.mem_of_getElem? (i := 856) (by decide +kernel), List.mem_of_getElem? (i := 857) (by decide +kernel)⟩
theorem lw_p21 : lw_okq (⟨"MothCustomsModel", "is", "(IIII)Z"⟩, 25) := ⟨⟨by decide +kernel, by decide +kernel⟩, List.mem_of_getElem? (i := 729) (by decide +kernel), List.mem_of_getElem? (i := 860) (by decide +kernel), List.mem_of_getElem? (i := 861) (by decide +kernel)⟩
theorem lw_p22 : lw_okq (⟨"MothCustomsModel", "ends", "(IIII)Z"⟩, 25) := ⟨⟨by decide +kernel, by decide +kernel⟩, List.mem_of_getElem? (i := 729) (by decide +kernel), List.mem_of_getElem? (i := 864) (by decide +kernel), List.mem_of_getElem? (i := 865) (by decide +kernel)⟩
theorem lw_p23 : lw_okq (⟨"MothCustomsModel", "readLineOf", "(I)V"⟩, 25) := ⟨⟨by decide +kernel, by decide +kernel⟩, List.mem_of_getElem? (i := 729) (by decide +kernel), List.mem_of_getElem? (i := 868) (by decide +kernel), List.mem_of_getElem? (i := 869) (by decide +kernel)⟩
theorem lw_p24 : lw_okq (⟨"MothCustomsModel", "readBolt", "()V"⟩, 25) := ⟨⟨by decide +kernel, by decide +kernel⟩, List.mem_of_getElem? (i := 729) (by decide +kernel), List.mem_of_getElem? (i := 872) (by decide +kernel), List.mem_of_getElem? (i := 873) (by decide +kernel)⟩
theorem lw_p25 : lw_okq (⟨"MothCustomsModel", "readNumber", "(II)I"⟩, 25) := ⟨⟨by decide +kernel, by decide +kernel⟩, List.mem_of_getElem? (i := 729) (by decide +kernel), List.mem_of_getElem? (i := 876) (by decide +kernel), List.mem_of_getElem? (i := 877) (by decide +kernel)⟩
theorem lw_p26 : lw_okq (⟨"MothCustomsModel", "looked", "(II)I"⟩, 25) := ⟨⟨by decide +kernel, by decide +kernel⟩, List.mem_of_getElem? (i := 729) (by decide +kernel), List.mem_of_getElem? (i := 880) (by decide +kernel), List.mem_of_getElem? (i := 881) (by decide +kernel)⟩
theorem lw_p27 : lw_okq (⟨"MothCustomsModel", "readCamphor", "()V"⟩, 25) := ⟨⟨by decide +kernel, by decide +kernel⟩, List.mem_of_getElem? (i := 729) (by decide +kernel), List.mem_of_getElem? (i := 887) (by decide +kernel), List.mem_of_getElem? (i := 888) (by decide +kernel)⟩
theorem lw_p28 : lw_okq (⟨"MothCustomsModel", "readMoth", "(I)V"⟩, 25) := ⟨⟨by decide +kernel, by decide +kernel⟩, List.mem_of_getElem? (i := 729) (by decide +kernel), List.mem_of_getElem? (i := 891) (by decide +kernel), List.mem_of_getElem? (i := 892) (by decide +kernel)⟩
theorem lw_p29 : lw_okq (⟨"MothCustomsModel", "starts", "()V"⟩, 25) := ⟨⟨by decide +kernel, by decide +kernel⟩, List.mem_of_getElem? (i := 729) (by decide +kernel), List.mem_of_getElem? (i := 903) (by decide +kernel), List.mem_of_getElem? (i := 904) (by decide +kernel)⟩
theorem lw_p30 : lw_okq (⟨"MothCustomsModel", "of", "(II)I"⟩, 25) := ⟨⟨by decide +kernel, by decide +kernel⟩, List.mem_of_getElem? (i := 729) (by decide +kernel), List.mem_of_getElem? (i := 907) (by decide +kernel), List.mem_of_getElem? (i := 908) (by decide +kernel)⟩
theorem lw_p31 : lw_okq (⟨"MothCustomsModel", "eaten", "()I"⟩, 25) := ⟨⟨by decide +kernel, by decide +kernel⟩, List.mem_of_getElem? (i := 729) (by decide +kernel), List.mem_of_getElem? (i := 911) (by decide +kernel), List.mem_of_getElem? (i := 912) (by decide +kernel)⟩
def lw_privs_2 : List (MethodName × Nat) := [(⟨"MothCustomsModel", "next", "()V"⟩, 25), (⟨"MothCustomsModel", "byteAt", "(I)I"⟩, 25), (⟨"MothCustomsModel", "needs", "(ZI)V"⟩, 25), (⟨"MothCustomsModel", "readLine", "()V"⟩, 25), (⟨"MothCustomsModel", "lineNow", "()I"⟩, 25), (⟨"MothCustomsModel", "is", "(IIII)Z"⟩, 25), (⟨"MothCustomsModel", "ends", "(IIII)Z"⟩, 25), (⟨"MothCustomsModel", "readLineOf", "(I)V"⟩, 25), (⟨"MothCustomsModel", "readBolt", "()V"⟩, 25), (⟨"MothCustomsModel", "readNumber", "(II)I"⟩, 25), (⟨"MothCustomsModel", "looked", "(II)I"⟩, 25), (⟨"MothCustomsModel", "readCamphor", "()V"⟩, 25), (⟨"MothCustomsModel", "readMoth", "(I)V"⟩, 25), (⟨"MothCustomsModel", "starts", "()V"⟩, 25), (⟨"MothCustomsModel", "of", "(II)I"⟩, 25), (⟨"MothCustomsModel", "eaten", "()I"⟩, 25)]
theorem lw_r2 : ∀ q ∈ lw_privs_2, lw_okq q := List.forall_mem_cons.mpr ⟨lw_p16, List.forall_mem_cons.mpr ⟨lw_p17, List.forall_mem_cons.mpr ⟨lw_p18, List.forall_mem_cons.mpr ⟨lw_p19, List.forall_mem_cons.mpr ⟨lw_p20, List.forall_mem_cons.mpr ⟨lw_p21, List.forall_mem_cons.mpr ⟨lw_p22, List.forall_mem_cons.mpr ⟨lw_p23, List.forall_mem_cons.mpr ⟨lw_p24, List.forall_mem_cons.mpr ⟨lw_p25, List.forall_mem_cons.mpr ⟨lw_p26, List.forall_mem_cons.mpr ⟨lw_p27, List.forall_mem_cons.mpr ⟨lw_p28, List.forall_mem_cons.mpr ⟨lw_p29, List.forall_mem_cons.mpr ⟨lw_p30, List.forall_mem_cons.mpr ⟨lw_p31, fun _ h => absurd h List.not_mem_nil⟩⟩⟩⟩⟩⟩⟩⟩⟩⟩⟩⟩⟩⟩⟩⟩
theorem lw_p32 : lw_okq (⟨"MothCustomsModel", "isEaten", "(I)Z"⟩, 25) := ⟨⟨by decide +kernel, by decide +kernel⟩, List.mem_of_getElem? (i := 729) (by decide +kernel), List.mem_of_getElem? (i := 915) (by decide +kernel), List.mem_of_getElem? (i := 916) (by decide +kernel)⟩
theorem lw_p33 : lw_okq (⟨"MothCustomsModel", "isBolt", "(I)Z"⟩, 25) := ⟨⟨by decide +kernel, by decide +kernel⟩, List.mem_of_getElem? (i := 729) (by decide +kernel), List.mem_of_getElem? (i := 923) (by decide +kernel), List.mem_of_getElem? (i := 924) (by decide +kernel)⟩
theorem lw_p34 : lw_okq (⟨"MothCustomsModel", "isMoth", "(I)Z"⟩, 25) := ⟨⟨by decide +kernel, by decide +kernel⟩, List.mem_of_getElem? (i := 729) (by decide +kernel), List.mem_of_getElem? (i := 932) (by decide +kernel), List.mem_of_getElem? (i := 933) (by decide +kernel)⟩
theorem lw_p35 : lw_okq (⟨"MothCustomsModel", "doesLike", "(II)Z"⟩, 25) := ⟨⟨by decide +kernel, by decide +kernel⟩, List.mem_of_getElem? (i := 729) (by decide +kernel), List.mem_of_getElem? (i := 936) (by decide +kernel), List.mem_of_getElem? (i := 937) (by decide +kernel)⟩
theorem lw_p36 : lw_okq (⟨"MothCustomsModel", "mothOf", "(II)I"⟩, 25) := ⟨⟨by decide +kernel, by decide +kernel⟩, List.mem_of_getElem? (i := 729) (by decide +kernel), List.mem_of_getElem? (i := 940) (by decide +kernel), List.mem_of_getElem? (i := 941) (by decide +kernel)⟩
theorem lw_p37 : lw_okq (⟨"MothCustomsModel", "appetite", "(I)I"⟩, 25) := ⟨⟨by decide +kernel, by decide +kernel⟩, List.mem_of_getElem? (i := 729) (by decide +kernel), List.mem_of_getElem? (i := 945) (by decide +kernel), List.mem_of_getElem? (i := 946) (by decide +kernel)⟩
theorem lw_p38 : lw_okq (⟨"MothCustomsModel", "liesIn", "(I)I"⟩, 25) := ⟨⟨by decide +kernel, by decide +kernel⟩, List.mem_of_getElem? (i := 729) (by decide +kernel), List.mem_of_getElem? (i := 957) (by decide +kernel), List.mem_of_getElem? (i := 958) (by decide +kernel)⟩
theorem lw_p39 : lw_okq (⟨"MothCustomsModel", "dutyOf", "(I)I"⟩, 25) := ⟨⟨by decide +kernel, by decide +kernel⟩, List.mem_of_getElem? (i := 729) (by decide +kernel), List.mem_of_getElem? (i := 961) (by decide +kernel), List.mem_of_getElem? (i := 962) (by decide +kernel)⟩
theorem lw_p40 : lw_okq (⟨"MothCustomsModel", "boltAt", "(II)I"⟩, 25) := ⟨⟨by decide +kernel, by decide +kernel⟩, List.mem_of_getElem? (i := 729) (by decide +kernel), List.mem_of_getElem? (i := 965) (by decide +kernel), List.mem_of_getElem? (i := 966) (by decide +kernel)⟩
theorem lw_p41 : lw_okq (⟨"MothCustomsModel", "folded", "(IIZ)I"⟩, 25) := ⟨⟨by decide +kernel, by decide +kernel⟩, List.mem_of_getElem? (i := 729) (by decide +kernel), List.mem_of_getElem? (i := 974) (by decide +kernel), List.mem_of_getElem? (i := 975) (by decide +kernel)⟩
theorem lw_p42 : lw_okq (⟨"MothCustomsModel", "folds", "(IIZ)V"⟩, 25) := ⟨⟨by decide +kernel, by decide +kernel⟩, List.mem_of_getElem? (i := 729) (by decide +kernel), List.mem_of_getElem? (i := 978) (by decide +kernel), List.mem_of_getElem? (i := 979) (by decide +kernel)⟩
theorem lw_p43 : lw_okq (⟨"MothCustomsModel", "becomesOf", "(III)V"⟩, 25) := ⟨⟨by decide +kernel, by decide +kernel⟩, List.mem_of_getElem? (i := 729) (by decide +kernel), List.mem_of_getElem? (i := 982) (by decide +kernel), List.mem_of_getElem? (i := 983) (by decide +kernel)⟩
theorem lw_p44 : lw_okq (⟨"MothCustomsModel", "settles", "()V"⟩, 25) := ⟨⟨by decide +kernel, by decide +kernel⟩, List.mem_of_getElem? (i := 729) (by decide +kernel), List.mem_of_getElem? (i := 986) (by decide +kernel), List.mem_of_getElem? (i := 987) (by decide +kernel)⟩
theorem lw_p45 : lw_okq (⟨"MothCustomsModel", "becomes", "(II)I"⟩, 25) := ⟨⟨by decide +kernel, by decide +kernel⟩, List.mem_of_getElem? (i := 729) (by decide +kernel), List.mem_of_getElem? (i := 998) (by decide +kernel), List.mem_of_getElem? (i := 999) (by decide +kernel)⟩
theorem lw_p46 : lw_okq (⟨"MothCustomsModel", "nightsGo", "(I)V"⟩, 25) := ⟨⟨by decide +kernel, by decide +kernel⟩, List.mem_of_getElem? (i := 729) (by decide +kernel), List.mem_of_getElem? (i := 1035) (by decide +kernel), List.mem_of_getElem? (i := 1036) (by decide +kernel)⟩
theorem lw_p47 : lw_okq (⟨"MothCustomsModel", "everyMoth", "()I"⟩, 25) := ⟨⟨by decide +kernel, by decide +kernel⟩, List.mem_of_getElem? (i := 729) (by decide +kernel), List.mem_of_getElem? (i := 1039) (by decide +kernel), List.mem_of_getElem? (i := 1040) (by decide +kernel)⟩
def lw_privs_3 : List (MethodName × Nat) := [(⟨"MothCustomsModel", "isEaten", "(I)Z"⟩, 25), (⟨"MothCustomsModel", "isBolt", "(I)Z"⟩, 25), (⟨"MothCustomsModel", "isMoth", "(I)Z"⟩, 25), (⟨"MothCustomsModel", "doesLike", "(II)Z"⟩, 25), (⟨"MothCustomsModel", "mothOf", "(II)I"⟩, 25), (⟨"MothCustomsModel", "appetite", "(I)I"⟩, 25), (⟨"MothCustomsModel", "liesIn", "(I)I"⟩, 25), (⟨"MothCustomsModel", "dutyOf", "(I)I"⟩, 25), (⟨"MothCustomsModel", "boltAt", "(II)I"⟩, 25), (⟨"MothCustomsModel", "folded", "(IIZ)I"⟩, 25), (⟨"MothCustomsModel", "folds", "(IIZ)V"⟩, 25), (⟨"MothCustomsModel", "becomesOf", "(III)V"⟩, 25), (⟨"MothCustomsModel", "settles", "()V"⟩, 25), (⟨"MothCustomsModel", "becomes", "(II)I"⟩, 25), (⟨"MothCustomsModel", "nightsGo", "(I)V"⟩, 25), (⟨"MothCustomsModel", "everyMoth", "()I"⟩, 25)]
theorem lw_r3 : ∀ q ∈ lw_privs_3, lw_okq q := List.forall_mem_cons.mpr ⟨lw_p32, List.forall_mem_cons.mpr ⟨lw_p33, List.forall_mem_cons.mpr ⟨lw_p34, List.forall_mem_cons.mpr ⟨lw_p35, List.forall_mem_cons.mpr ⟨lw_p36, List.forall_mem_cons.mpr ⟨lw_p37, List.forall_mem_cons.mpr ⟨lw_p38, List.forall_mem_cons.mpr ⟨lw_p39, List.forall_mem_cons.mpr ⟨lw_p40, List.forall_mem_cons.mpr ⟨lw_p41, List.forall_mem_cons.mpr ⟨lw_p42, List.forall_mem_cons.mpr ⟨lw_p43, List.forall_mem_cons.mpr ⟨lw_p44, List.forall_mem_cons.mpr ⟨lw_p45, List.forall_mem_cons.mpr ⟨lw_p46, List.forall_mem_cons.mpr ⟨lw_p47, fun _ h => absurd h List.not_mem_nil⟩⟩⟩⟩⟩⟩⟩⟩⟩⟩⟩⟩⟩⟩⟩⟩
theorem lw_p48 : lw_okq (⟨"MothCustomsModel", "nightGoes", "(I)V"⟩, 25) := ⟨⟨by decide +kernel, by decide +kernel⟩, List.mem_of_getElem? (i := 729) (by decide +kernel), List.mem_of_getElem? (i := 1043) (by decide +kernel), List.mem_of_getElem? (i := 1044) (by decide +kernel)⟩
theorem lw_p49 : lw_okq (⟨"MothCustomsModel", "eatsNow", "(I)I"⟩, 25) := ⟨⟨by decide +kernel, by decide +kernel⟩, List.mem_of_getElem? (i := 729) (by decide +kernel), List.mem_of_getElem? (i := 1047) (by decide +kernel), List.mem_of_getElem? (i := 1048) (by decide +kernel)⟩
theorem lw_p50 : lw_okq (⟨"MothCustomsModel", "dutyAll", "()I"⟩, 25) := ⟨⟨by decide +kernel, by decide +kernel⟩, List.mem_of_getElem? (i := 729) (by decide +kernel), List.mem_of_getElem? (i := 1051) (by decide +kernel), List.mem_of_getElem? (i := 1052) (by decide +kernel)⟩
theorem lw_p51 : lw_okq (⟨"MothCustomsModel", "allHoles", "()I"⟩, 25) := ⟨⟨by decide +kernel, by decide +kernel⟩, List.mem_of_getElem? (i := 729) (by decide +kernel), List.mem_of_getElem? (i := 1059) (by decide +kernel), List.mem_of_getElem? (i := 1060) (by decide +kernel)⟩
theorem lw_p52 : lw_okq (⟨"MothCustomsModel", "rows", "()I"⟩, 25) := ⟨⟨by decide +kernel, by decide +kernel⟩, List.mem_of_getElem? (i := 729) (by decide +kernel), List.mem_of_getElem? (i := 1080) (by decide +kernel), List.mem_of_getElem? (i := 1081) (by decide +kernel)⟩
theorem lw_p53 : lw_okq (⟨"MothCustomsModel", "isRow", "(I)Z"⟩, 25) := ⟨⟨by decide +kernel, by decide +kernel⟩, List.mem_of_getElem? (i := 729) (by decide +kernel), List.mem_of_getElem? (i := 1084) (by decide +kernel), List.mem_of_getElem? (i := 1085) (by decide +kernel)⟩
theorem lw_p54 : lw_okq (⟨"MothCustomsModel", "cutsAt", "(II)V"⟩, 25) := ⟨⟨by decide +kernel, by decide +kernel⟩, List.mem_of_getElem? (i := 729) (by decide +kernel), List.mem_of_getElem? (i := 1088) (by decide +kernel), List.mem_of_getElem? (i := 1089) (by decide +kernel)⟩
theorem lw_p55 : lw_okq (⟨"MothCustomsModel", "placesNow", "()I"⟩, 25) := ⟨⟨by decide +kernel, by decide +kernel⟩, List.mem_of_getElem? (i := 729) (by decide +kernel), List.mem_of_getElem? (i := 1092) (by decide +kernel), List.mem_of_getElem? (i := 1093) (by decide +kernel)⟩
theorem lw_p56 : lw_okq (⟨"MothCustomsModel", "dutyNext", "()I"⟩, 25) := ⟨⟨by decide +kernel, by decide +kernel⟩, List.mem_of_getElem? (i := 729) (by decide +kernel), List.mem_of_getElem? (i := 1096) (by decide +kernel), List.mem_of_getElem? (i := 1097) (by decide +kernel)⟩
theorem lw_p57 : lw_okq (⟨"MothCustomsModel", "placeIn", "(II)I"⟩, 25) := ⟨⟨by decide +kernel, by decide +kernel⟩, List.mem_of_getElem? (i := 729) (by decide +kernel), List.mem_of_getElem? (i := 1100) (by decide +kernel), List.mem_of_getElem? (i := 1101) (by decide +kernel)⟩
theorem lw_p58 : lw_okq (⟨"MothCustomsModel", "waysOf", "(II)J"⟩, 25) := ⟨⟨by decide +kernel, by decide +kernel⟩, List.mem_of_getElem? (i := 729) (by decide +kernel), List.mem_of_getElem? (i := 1121) (by decide +kernel), List.mem_of_getElem? (i := 1122) (by decide +kernel)⟩
theorem lw_p59 : lw_okq (⟨"MothCustomsModel", "allWays", "()J"⟩, 25) := ⟨⟨by decide +kernel, by decide +kernel⟩, List.mem_of_getElem? (i := 729) (by decide +kernel), List.mem_of_getElem? (i := 1125) (by decide +kernel), List.mem_of_getElem? (i := 1126) (by decide +kernel)⟩
theorem lw_p60 : lw_okq (⟨"MothCustomsModel", "isSo", "(I)Z"⟩, 25) := ⟨⟨by decide +kernel, by decide +kernel⟩, List.mem_of_getElem? (i := 729) (by decide +kernel), List.mem_of_getElem? (i := 1151) (by decide +kernel), List.mem_of_getElem? (i := 1152) (by decide +kernel)⟩
theorem lw_p61 : lw_okq (⟨"MothCustomsModel", "liesBy", "(I)V"⟩, 25) := ⟨⟨by decide +kernel, by decide +kernel⟩, List.mem_of_getElem? (i := 729) (by decide +kernel), List.mem_of_getElem? (i := 1167) (by decide +kernel), List.mem_of_getElem? (i := 1168) (by decide +kernel)⟩
theorem lw_p62 : lw_okq (⟨"MothCustomsModel", "copies", "(II)V"⟩, 25) := ⟨⟨by decide +kernel, by decide +kernel⟩, List.mem_of_getElem? (i := 729) (by decide +kernel), List.mem_of_getElem? (i := 1180) (by decide +kernel), List.mem_of_getElem? (i := 1181) (by decide +kernel)⟩
def lw_privs_4 : List (MethodName × Nat) := [(⟨"MothCustomsModel", "nightGoes", "(I)V"⟩, 25), (⟨"MothCustomsModel", "eatsNow", "(I)I"⟩, 25), (⟨"MothCustomsModel", "dutyAll", "()I"⟩, 25), (⟨"MothCustomsModel", "allHoles", "()I"⟩, 25), (⟨"MothCustomsModel", "rows", "()I"⟩, 25), (⟨"MothCustomsModel", "isRow", "(I)Z"⟩, 25), (⟨"MothCustomsModel", "cutsAt", "(II)V"⟩, 25), (⟨"MothCustomsModel", "placesNow", "()I"⟩, 25), (⟨"MothCustomsModel", "dutyNext", "()I"⟩, 25), (⟨"MothCustomsModel", "placeIn", "(II)I"⟩, 25), (⟨"MothCustomsModel", "waysOf", "(II)J"⟩, 25), (⟨"MothCustomsModel", "allWays", "()J"⟩, 25), (⟨"MothCustomsModel", "isSo", "(I)Z"⟩, 25), (⟨"MothCustomsModel", "liesBy", "(I)V"⟩, 25), (⟨"MothCustomsModel", "copies", "(II)V"⟩, 25)]
theorem lw_r4 : ∀ q ∈ lw_privs_4, lw_okq q := List.forall_mem_cons.mpr ⟨lw_p48, List.forall_mem_cons.mpr ⟨lw_p49, List.forall_mem_cons.mpr ⟨lw_p50, List.forall_mem_cons.mpr ⟨lw_p51, List.forall_mem_cons.mpr ⟨lw_p52, List.forall_mem_cons.mpr ⟨lw_p53, List.forall_mem_cons.mpr ⟨lw_p54, List.forall_mem_cons.mpr ⟨lw_p55, List.forall_mem_cons.mpr ⟨lw_p56, List.forall_mem_cons.mpr ⟨lw_p57, List.forall_mem_cons.mpr ⟨lw_p58, List.forall_mem_cons.mpr ⟨lw_p59, List.forall_mem_cons.mpr ⟨lw_p60, List.forall_mem_cons.mpr ⟨lw_p61, List.forall_mem_cons.mpr ⟨lw_p62, fun _ h => absurd h List.not_mem_nil⟩⟩⟩⟩⟩⟩⟩⟩⟩⟩⟩⟩⟩⟩⟩
def lw_privs : List (MethodName × Nat) := lw_privs_1 ++ (lw_privs_2 ++ (lw_privs_3 ++ (lw_privs_4)))
def lw_tbl : List Cond := k2_sels lw_privs ++ tables_1
theorem lw_privs_ok : ∀ q ∈ lw_privs, lw_okq q := by
  show ∀ q ∈ lw_privs_1 ++ (lw_privs_2 ++ (lw_privs_3 ++ (lw_privs_4))), lw_okq q
  exact List.forall_mem_append.mpr ⟨lw_r1, List.forall_mem_append.mpr ⟨lw_r2, List.forall_mem_append.mpr ⟨lw_r3, lw_r4⟩⟩⟩
end
section
def RX0 : String := "MothCustoms$Search"
def TX0 : u_T := fun k => match k with
  | 0 => ("MothCustoms$Search", "tried", "LMothCustoms$Shed;", true)
  | 1 => ("MothCustoms$Search", "codes", "[I", true)
  | 2 => ("MothCustoms$Search", "bestCodes", "[I", true)
  | 3 => ("MothCustoms$Search", "least", "I", false)
  | 4 => ("MothCustoms$Search", "taken", "I", false)
  | _ => ("MothCustoms$Search", "tops", "I", false)
def tyX0 : Nat → FieldType := fun k => match k with
  | 0 => .object "MothCustoms$Shed"
  | 1 => .array .int
  | 2 => .array .int
  | 3 => .int
  | 4 => .int
  | _ => .int
theorem nmX0 : ∀ a, a < 6 → ∀ b, b < 6 → a ≠ b → (TX0 a).2.1 ≠ (TX0 b).2.1 := by decide +kernel
theorem tyX0_ok : ∀ k, k < 6 → parseFieldDescriptor (TX0 k).2.2.1 = some (tyX0 k) := by decide +kernel
abbrev cX0_init : ByteArray := prog_2_method_1_code
def yX0_init : MethodName := ⟨RX0, "<init>", "()V"⟩
abbrev cX0_findBest : ByteArray := prog_2_method_2_code
def yX0_findBest : MethodName := ⟨RX0, "findBest", "(LMothCustoms$Shed;)V"⟩
abbrev cX0_placeFrom : ByteArray := prog_2_method_3_code
def yX0_placeFrom : MethodName := ⟨RX0, "placeFrom", "(LMothCustoms$Search;LMothCustoms$Shed;II)V"⟩
abbrev cX0_weighFolding : ByteArray := prog_2_method_4_code
def yX0_weighFolding : MethodName := ⟨RX0, "weighFolding", "(LMothCustoms$Search;LMothCustoms$Shed;)V"⟩
abbrev cX0_findTops : ByteArray := prog_2_method_5_code
def yX0_findTops : MethodName := ⟨RX0, "findTops", "(LMothCustoms$Shed;I)I"⟩
abbrev cX0_orderFrom : ByteArray := prog_2_method_6_code
def yX0_orderFrom : MethodName := ⟨RX0, "orderFrom", "(LMothCustoms$Search;LMothCustoms$Shed;II)V"⟩
abbrev cX0_exchange : ByteArray := prog_2_method_7_code
def yX0_exchange : MethodName := ⟨RX0, "exchange", "([III)V"⟩
def RX1 : String := "MothCustoms$Shed"
def TX1 : u_T := fun k => match k with
  | 0 => ("MothCustoms$Shed", "bolts", "I", false)
  | 1 => ("MothCustoms$Shed", "dye", "[I", true)
  | 2 => ("MothCustoms$Shed", "wool", "[I", true)
  | 3 => ("MothCustoms$Shed", "holes", "[I", true)
  | 4 => ("MothCustoms$Shed", "camphor", "I", false)
  | 5 => ("MothCustoms$Shed", "lying", "[I", true)
  | 6 => ("MothCustoms$Shed", "height", "[I", true)
  | 7 => ("MothCustoms$Shed", "moths", "I", false)
  | 8 => ("MothCustoms$Shed", "kind", "[I", true)
  | 9 => ("MothCustoms$Shed", "taste", "[I", true)
  | 10 => ("MothCustoms$Shed", "hunger", "[I", true)
  | 11 => ("MothCustoms$Shed", "at", "[I", true)
  | 12 => ("MothCustoms$Shed", "moon", "I", false)
  | 13 => ("MothCustoms$Shed", "rate", "I", false)
  | 14 => ("MothCustoms$Shed", "night", "I", false)
  | 15 => ("MothCustoms$Shed", "seen", "I", false)
  | 16 => ("MothCustoms$Shed", "seenBolt", "[I", true)
  | _ => ("MothCustoms$Shed", "seenHoles", "[I", true)
def tyX1 : Nat → FieldType := fun k => match k with
  | 0 => .int
  | 1 => .array .int
  | 2 => .array .int
  | 3 => .array .int
  | 4 => .int
  | 5 => .array .int
  | 6 => .array .int
  | 7 => .int
  | 8 => .array .int
  | 9 => .array .int
  | 10 => .array .int
  | 11 => .array .int
  | 12 => .int
  | 13 => .int
  | 14 => .int
  | 15 => .int
  | 16 => .array .int
  | _ => .array .int
theorem nmX1 : ∀ a, a < 18 → ∀ b, b < 18 → a ≠ b → (TX1 a).2.1 ≠ (TX1 b).2.1 := by decide +kernel
theorem tyX1_ok : ∀ k, k < 18 → parseFieldDescriptor (TX1 k).2.2.1 = some (tyX1 k) := by decide +kernel
abbrev cX1_init : ByteArray := prog_3_method_1_code
def yX1_init : MethodName := ⟨RX1, "<init>", "()V"⟩
abbrev cX1_makeEmpty : ByteArray := prog_3_method_2_code
def yX1_makeEmpty : MethodName := ⟨RX1, "makeEmpty", "()V"⟩
abbrev cX1_copyFrom : ByteArray := prog_3_method_3_code
def yX1_copyFrom : MethodName := ⟨RX1, "copyFrom", "(LMothCustoms$Shed;)V"⟩
abbrev cX1_copyHolesFrom : ByteArray := prog_3_method_4_code
def yX1_copyHolesFrom : MethodName := ⟨RX1, "copyHolesFrom", "(LMothCustoms$Shed;)V"⟩
abbrev cX1_copyLyingFrom : ByteArray := prog_3_method_5_code
def yX1_copyLyingFrom : MethodName := ⟨RX1, "copyLyingFrom", "(LMothCustoms$Shed;)V"⟩
abbrev cX1_hasBolt : ByteArray := prog_3_method_6_code
def yX1_hasBolt : MethodName := ⟨RX1, "hasBolt", "(I)Z"⟩
abbrev cX1_hasMoth : ByteArray := prog_3_method_7_code
def yX1_hasMoth : MethodName := ⟨RX1, "hasMoth", "(I)Z"⟩
abbrev cX1_hasCamphor : ByteArray := prog_3_method_8_code
def yX1_hasCamphor : MethodName := ⟨RX1, "hasCamphor", "(I)Z"⟩
abbrev cX1_addBolt : ByteArray := prog_3_method_9_code
def yX1_addBolt : MethodName := ⟨RX1, "addBolt", "(III)V"⟩
abbrev cX1_addMoth : ByteArray := prog_3_method_10_code
def yX1_addMoth : MethodName := ⟨RX1, "addMoth", "(IIII)V"⟩
abbrev cX1_spotOf : ByteArray := prog_3_method_11_code
def yX1_spotOf : MethodName := ⟨RX1, "spotOf", "(I)I"⟩
abbrev cX1_baleOf : ByteArray := prog_3_method_12_code
def yX1_baleOf : MethodName := ⟨RX1, "baleOf", "(I)I"⟩
abbrev cX1_layerOf : ByteArray := prog_3_method_13_code
def yX1_layerOf : MethodName := ⟨RX1, "layerOf", "(I)I"⟩
abbrev cX1_takeOut : ByteArray := prog_3_method_14_code
def yX1_takeOut : MethodName := ⟨RX1, "takeOut", "(I)V"⟩
abbrev cX1_putBelow : ByteArray := prog_3_method_15_code
def yX1_putBelow : MethodName := ⟨RX1, "putBelow", "(II)V"⟩
abbrev cX1_putOnTop : ByteArray := prog_3_method_16_code
def yX1_putOnTop : MethodName := ⟨RX1, "putOnTop", "(II)V"⟩
abbrev cX1_trait : ByteArray := prog_3_method_17_code
def yX1_trait : MethodName := ⟨RX1, "trait", "(II)I"⟩
abbrev cX1_setTrait : ByteArray := prog_3_method_18_code
def yX1_setTrait : MethodName := ⟨RX1, "setTrait", "(III)V"⟩
abbrev cX1_appetite : ByteArray := prog_3_method_19_code
def yX1_appetite : MethodName := ⟨RX1, "appetite", "(I)I"⟩
abbrev cX1_likes : ByteArray := prog_3_method_20_code
def yX1_likes : MethodName := ⟨RX1, "likes", "(II)Z"⟩
abbrev cX1_liked : ByteArray := prog_3_method_21_code
def yX1_liked : MethodName := ⟨RX1, "liked", "(I)I"⟩
abbrev cX1_passNight : ByteArray := prog_3_method_22_code
def yX1_passNight : MethodName := ⟨RX1, "passNight", "()V"⟩
abbrev cX1_letLoose : ByteArray := prog_3_method_23_code
def yX1_letLoose : MethodName := ⟨RX1, "letLoose", "(I)V"⟩
abbrev cX1_eatDown : ByteArray := prog_3_method_24_code
def yX1_eatDown : MethodName := ⟨RX1, "eatDown", "(I)V"⟩
abbrev cX1_dutyOf : ByteArray := prog_3_method_25_code
def yX1_dutyOf : MethodName := ⟨RX1, "dutyOf", "(I)I"⟩
abbrev cX1_dutyOfAll : ByteArray := prog_3_method_26_code
def yX1_dutyOfAll : MethodName := ⟨RX1, "dutyOfAll", "()I"⟩
abbrev cX1_holesInAll : ByteArray := prog_3_method_27_code
def yX1_holesInAll : MethodName := ⟨RX1, "holesInAll", "()I"⟩
abbrev cX1_isEatenUp : ByteArray := prog_3_method_28_code
def yX1_isEatenUp : MethodName := ⟨RX1, "isEatenUp", "(I)Z"⟩
abbrev cX1_eatenUp : ByteArray := prog_3_method_29_code
def yX1_eatenUp : MethodName := ⟨RX1, "eatenUp", "()I"⟩
abbrev cX1_isAsSeen : ByteArray := prog_3_method_30_code
def yX1_isAsSeen : MethodName := ⟨RX1, "isAsSeen", "(I)Z"⟩
def RX2 : String := "MothCustoms$Sheet"
def TX2 : u_T := fun k => match k with
  | 0 => ("MothCustoms$Sheet", "there", "Z", false)
  | 1 => ("MothCustoms$Sheet", "lane", "I", false)
  | 2 => ("MothCustoms$Sheet", "size", "I", false)
  | _ => ("MothCustoms$Sheet", "cells", "[I", true)
def tyX2 : Nat → FieldType := fun k => match k with
  | 0 => .boolean
  | 1 => .int
  | 2 => .int
  | _ => .array .int
theorem nmX2 : ∀ a, a < 4 → ∀ b, b < 4 → a ≠ b → (TX2 a).2.1 ≠ (TX2 b).2.1 := by decide +kernel
theorem tyX2_ok : ∀ k, k < 4 → parseFieldDescriptor (TX2 k).2.2.1 = some (tyX2 k) := by decide +kernel
abbrev cX2_init : ByteArray := prog_4_method_1_code
def yX2_init : MethodName := ⟨RX2, "<init>", "()V"⟩
abbrev cX2_makeNew : ByteArray := prog_4_method_2_code
def yX2_makeNew : MethodName := ⟨RX2, "makeNew", "(II)V"⟩
abbrev cX2_hasCell : ByteArray := prog_4_method_3_code
def yX2_hasCell : MethodName := ⟨RX2, "hasCell", "(I)Z"⟩
abbrev cX2_setCell : ByteArray := prog_4_method_4_code
def yX2_setCell : MethodName := ⟨RX2, "setCell", "(II)V"⟩
abbrev cX2_faultAs : ByteArray := prog_4_method_5_code
def yX2_faultAs : MethodName := ⟨RX2, "faultAs", "(I)I"⟩
abbrev cX2_wholePairs : ByteArray := prog_4_method_6_code
def yX2_wholePairs : MethodName := ⟨RX2, "wholePairs", "(II)I"⟩
def RX3 : String := "MothCustoms$Tape"
def TX3 : u_T := fun k => match k with
  | 0 => ("MothCustoms$Tape", "bytes", "[I", true)
  | 1 => ("MothCustoms$Tape", "length", "I", false)
  | 2 => ("MothCustoms$Tape", "fault", "I", false)
  | 3 => ("MothCustoms$Tape", "faultPlace", "I", false)
  | 4 => ("MothCustoms$Tape", "numbers", "[I", true)
  | 5 => ("MothCustoms$Tape", "place", "I", false)
  | 6 => ("MothCustoms$Tape", "token", "I", false)
  | 7 => ("MothCustoms$Tape", "start", "I", false)
  | 8 => ("MothCustoms$Tape", "value", "I", false)
  | 9 => ("MothCustoms$Tape", "moonTold", "Z", false)
  | _ => ("MothCustoms$Tape", "rateTold", "Z", false)
def tyX3 : Nat → FieldType := fun k => match k with
  | 0 => .array .int
  | 1 => .int
  | 2 => .int
  | 3 => .int
  | 4 => .array .int
  | 5 => .int
  | 6 => .int
  | 7 => .int
  | 8 => .int
  | 9 => .boolean
  | _ => .boolean
theorem nmX3 : ∀ a, a < 11 → ∀ b, b < 11 → a ≠ b → (TX3 a).2.1 ≠ (TX3 b).2.1 := by decide +kernel
theorem tyX3_ok : ∀ k, k < 11 → parseFieldDescriptor (TX3 k).2.2.1 = some (tyX3 k) := by decide +kernel
abbrev cX3_init : ByteArray := prog_5_method_1_code
def yX3_init : MethodName := ⟨RX3, "<init>", "()V"⟩
abbrev cX3_tellInto : ByteArray := prog_5_method_2_code
def yX3_tellInto : MethodName := ⟨RX3, "tellInto", "(LMothCustoms$Shed;)I"⟩
abbrev cX3_tellLine : ByteArray := prog_5_method_3_code
def yX3_tellLine : MethodName := ⟨RX3, "tellLine", "(LMothCustoms$Shed;)Z"⟩
abbrev cX3_readNumbers : ByteArray := prog_5_method_4_code
def yX3_readNumbers : MethodName := ⟨RX3, "readNumbers", "(ILMothCustoms$Shed;)Z"⟩
abbrev cX3_mostOfNumber : ByteArray := prog_5_method_5_code
def yX3_mostOfNumber : MethodName := ⟨RX3, "mostOfNumber", "(II)I"⟩
abbrev cX3_take : ByteArray := prog_5_method_6_code
def yX3_take : MethodName := ⟨RX3, "take", "(ILMothCustoms$Shed;)V"⟩
abbrev cX3_lineNamed : ByteArray := prog_5_method_7_code
def yX3_lineNamed : MethodName := ⟨RX3, "lineNamed", "()I"⟩
abbrev cX3_isName : ByteArray := prog_5_method_8_code
def yX3_isName : MethodName := ⟨RX3, "isName", "(Ljava/lang/String;)Z"⟩
abbrev cX3_nextToken : ByteArray := prog_5_method_9_code
def yX3_nextToken : MethodName := ⟨RX3, "nextToken", "()V"⟩
abbrev cX3_readName : ByteArray := prog_5_method_10_code
def yX3_readName : MethodName := ⟨RX3, "readName", "()V"⟩
abbrev cX3_readNumber : ByteArray := prog_5_method_11_code
def yX3_readNumber : MethodName := ⟨RX3, "readNumber", "()V"⟩
abbrev cX3_isLetter : ByteArray := prog_5_method_12_code
def yX3_isLetter : MethodName := ⟨RX3, "isLetter", "(I)Z"⟩
abbrev cX3_isFigure : ByteArray := prog_5_method_13_code
def yX3_isFigure : MethodName := ⟨RX3, "isFigure", "(I)Z"⟩
abbrev cX3_refuse : ByteArray := prog_5_method_14_code
def yX3_refuse : MethodName := ⟨RX3, "refuse", "(II)Z"⟩
def RX4 : String := "MothCustoms"
def TX4 : u_T := fun k => match k with
  | 0 => ("MothCustoms", "tape", "LMothCustoms$Tape;", true)
  | 1 => ("MothCustoms", "now", "LMothCustoms$Shed;", true)
  | 2 => ("MothCustoms", "trial", "LMothCustoms$Shed;", true)
  | 3 => ("MothCustoms", "images", "[LMothCustoms$Shed;", true)
  | 4 => ("MothCustoms", "sheets", "[LMothCustoms$Sheet;", true)
  | 5 => ("MothCustoms", "search", "LMothCustoms$Search;", true)
  | 6 => ("MothCustoms", "kept", "I", false)
  | _ => ("MothCustoms", "torn", "I", false)
def tyX4 : Nat → FieldType := fun k => match k with
  | 0 => .object "MothCustoms$Tape"
  | 1 => .object "MothCustoms$Shed"
  | 2 => .object "MothCustoms$Shed"
  | 3 => .array (.object "MothCustoms$Shed")
  | 4 => .array (.object "MothCustoms$Sheet")
  | 5 => .object "MothCustoms$Search"
  | 6 => .int
  | _ => .int
theorem nmX4 : ∀ a, a < 8 → ∀ b, b < 8 → a ≠ b → (TX4 a).2.1 ≠ (TX4 b).2.1 := by decide +kernel
theorem tyX4_ok : ∀ k, k < 8 → parseFieldDescriptor (TX4 k).2.2.1 = some (tyX4 k) := by decide +kernel
abbrev cX4_init : ByteArray := prog_1_method_1_code
def yX4_init : MethodName := ⟨RX4, "<init>", "()V"⟩
abbrev cX4_feed : ByteArray := prog_1_method_2_code
def yX4_feed : MethodName := ⟨RX4, "feed", "(I)I"⟩
abbrev cX4_end : ByteArray := prog_1_method_3_code
def yX4_end : MethodName := ⟨RX4, "end", "(I)I"⟩
abbrev cX4_text : ByteArray := prog_1_method_4_code
def yX4_text : MethodName := ⟨RX4, "text", "()I"⟩
abbrev cX4_fault : ByteArray := prog_1_method_5_code
def yX4_fault : MethodName := ⟨RX4, "fault", "()I"⟩
abbrev cX4_rule : ByteArray := prog_1_method_6_code
def yX4_rule : MethodName := ⟨RX4, "rule", "(I)I"⟩
abbrev cX4_bolt : ByteArray := prog_1_method_7_code
def yX4_bolt : MethodName := ⟨RX4, "bolt", "(II)I"⟩
abbrev cX4_moth : ByteArray := prog_1_method_8_code
def yX4_moth : MethodName := ⟨RX4, "moth", "(II)I"⟩
abbrev cX4_bale : ByteArray := prog_1_method_9_code
def yX4_bale : MethodName := ⟨RX4, "bale", "(II)I"⟩
abbrev cX4_fold : ByteArray := prog_1_method_10_code
def yX4_fold : MethodName := ⟨RX4, "fold", "(II)I"⟩
abbrev cX4_under : ByteArray := prog_1_method_11_code
def yX4_under : MethodName := ⟨RX4, "under", "(II)I"⟩
abbrev cX4_swap : ByteArray := prog_1_method_12_code
def yX4_swap : MethodName := ⟨RX4, "swap", "(II)I"⟩
abbrev cX4_camphor : ByteArray := prog_1_method_13_code
def yX4_camphor : MethodName := ⟨RX4, "camphor", "(IZ)I"⟩
abbrev cX4_patch : ByteArray := prog_1_method_14_code
def yX4_patch : MethodName := ⟨RX4, "patch", "(II)I"⟩
abbrev cX4_prick : ByteArray := prog_1_method_15_code
def yX4_prick : MethodName := ⟨RX4, "prick", "(I)I"⟩
abbrev cX4_alter : ByteArray := prog_1_method_16_code
def yX4_alter : MethodName := ⟨RX4, "alter", "(III)I"⟩
abbrev cX4_set : ByteArray := prog_1_method_17_code
def yX4_set : MethodName := ⟨RX4, "set", "(II)I"⟩
abbrev cX4_go : ByteArray := prog_1_method_18_code
def yX4_go : MethodName := ⟨RX4, "go", "(I)I"⟩
abbrev cX4_ahead : ByteArray := prog_1_method_19_code
def yX4_ahead : MethodName := ⟨RX4, "ahead", "(II)I"⟩
abbrev cX4_when : ByteArray := prog_1_method_20_code
def yX4_when : MethodName := ⟨RX4, "when", "(I)I"⟩
abbrev cX4_eats : ByteArray := prog_1_method_21_code
def yX4_eats : MethodName := ⟨RX4, "eats", "(I)I"⟩
abbrev cX4_duty : ByteArray := prog_1_method_22_code
def yX4_duty : MethodName := ⟨RX4, "duty", "(I)I"⟩
abbrev cX4_best : ByteArray := prog_1_method_23_code
def yX4_best : MethodName := ⟨RX4, "best", "(I)I"⟩
abbrev cX4_guard : ByteArray := prog_1_method_24_code
def yX4_guard : MethodName := ⟨RX4, "guard", "(I)I"⟩
abbrev cX4_send : ByteArray := prog_1_method_25_code
def yX4_send : MethodName := ⟨RX4, "send", "(II)I"⟩
abbrev cX4_raise : ByteArray := prog_1_method_26_code
def yX4_raise : MethodName := ⟨RX4, "raise", "(I)I"⟩
abbrev cX4_mean : ByteArray := prog_1_method_27_code
def yX4_mean : MethodName := ⟨RX4, "mean", "(II)J"⟩
abbrev cX4_luck : ByteArray := prog_1_method_28_code
def yX4_luck : MethodName := ⟨RX4, "luck", "(III)J"⟩
abbrev cX4_see : ByteArray := prog_1_method_29_code
def yX4_see : MethodName := ⟨RX4, "see", "(II)I"⟩
abbrev cX4_forget : ByteArray := prog_1_method_30_code
def yX4_forget : MethodName := ⟨RX4, "forget", "(I)I"⟩
abbrev cX4_tastes : ByteArray := prog_1_method_31_code
def yX4_tastes : MethodName := ⟨RX4, "tastes", "(I)I"⟩
abbrev cX4_bought : ByteArray := prog_1_method_32_code
def yX4_bought : MethodName := ⟨RX4, "bought", "()I"⟩
abbrev cX4_pricked : ByteArray := prog_1_method_33_code
def yX4_pricked : MethodName := ⟨RX4, "pricked", "(I)I"⟩
abbrev cX4_lain : ByteArray := prog_1_method_34_code
def yX4_lain : MethodName := ⟨RX4, "lain", "(I)I"⟩
abbrev cX4_drift : ByteArray := prog_1_method_35_code
def yX4_drift : MethodName := ⟨RX4, "drift", "(III)I"⟩
abbrev cX4_keep : ByteArray := prog_1_method_36_code
def yX4_keep : MethodName := ⟨RX4, "keep", "(I)I"⟩
abbrev cX4_back : ByteArray := prog_1_method_37_code
def yX4_back : MethodName := ⟨RX4, "back", "(I)I"⟩
abbrev cX4_sheet : ByteArray := prog_1_method_38_code
def yX4_sheet : MethodName := ⟨RX4, "sheet", "(III)I"⟩
abbrev cX4_lay : ByteArray := prog_1_method_39_code
def yX4_lay : MethodName := ⟨RX4, "lay", "(III)I"⟩
abbrev cX4_read : ByteArray := prog_1_method_40_code
def yX4_read : MethodName := ⟨RX4, "read", "(IIII)I"⟩
abbrev cX4_torn : ByteArray := prog_1_method_41_code
def yX4_torn : MethodName := ⟨RX4, "torn", "()I"⟩
abbrev cX4_count : ByteArray := prog_1_method_42_code
def yX4_count : MethodName := ⟨RX4, "count", "(I)I"⟩
abbrev cX4_within : ByteArray := prog_1_method_43_code
def yX4_within : MethodName := ⟨RX4, "within", "(III)Z"⟩
abbrev cX4_isBale : ByteArray := prog_1_method_44_code
def yX4_isBale : MethodName := ⟨RX4, "isBale", "(I)Z"⟩
abbrev cX4_isSheet : ByteArray := prog_1_method_45_code
def yX4_isSheet : MethodName := ⟨RX4, "isSheet", "(I)Z"⟩
abbrev cX4_isLane : ByteArray := prog_1_method_46_code
def yX4_isLane : MethodName := ⟨RX4, "isLane", "(I)Z"⟩
abbrev cX4_mostOfTrait : ByteArray := prog_1_method_47_code
def yX4_mostOfTrait : MethodName := ⟨RX4, "mostOfTrait", "(I)I"⟩
abbrev cX4_tryNight : ByteArray := prog_1_method_48_code
def yX4_tryNight : MethodName := ⟨RX4, "tryNight", "(I)V"⟩
abbrev cX4_leastBy : ByteArray := prog_1_method_49_code
def yX4_leastBy : MethodName := ⟨RX4, "leastBy", "(ZI)I"⟩
abbrev cX4_weight : ByteArray := prog_1_method_50_code
def yX4_weight : MethodName := ⟨RX4, "weight", "(II)J"⟩
abbrev cX4_partOfFraction : ByteArray := prog_1_method_51_code
def yX4_partOfFraction : MethodName := ⟨RX4, "partOfFraction", "(JI)J"⟩
abbrev cX4_commonDivisor : ByteArray := prog_1_method_52_code
def yX4_commonDivisor : MethodName := ⟨RX4, "commonDivisor", "(JJ)J"⟩
def RX5 : String := "MothCustomsModel"
def TX5 : u_T := fun k => match k with
  | 0 => ("MothCustomsModel", "st", "[I", true)
  | 1 => ("MothCustomsModel", "at", "[I", true)
  | 2 => ("MothCustomsModel", "isKept", "[Z", true)
  | 3 => ("MothCustomsModel", "bolts", "I", false)
  | 4 => ("MothCustomsModel", "moths", "I", false)
  | 5 => ("MothCustomsModel", "draft", "[I", true)
  | 6 => ("MothCustomsModel", "dBolts", "I", false)
  | 7 => ("MothCustomsModel", "dMoths", "I", false)
  | 8 => ("MothCustomsModel", "toldLines", "I", false)
  | 9 => ("MothCustomsModel", "toldCamphor", "I", false)
  | 10 => ("MothCustomsModel", "highest", "I", false)
  | 11 => ("MothCustomsModel", "tape", "[I", true)
  | 12 => ("MothCustomsModel", "taped", "I", false)
  | 13 => ("MothCustomsModel", "pos", "I", false)
  | 14 => ("MothCustomsModel", "from", "I", false)
  | 15 => ("MothCustomsModel", "sort", "I", false)
  | 16 => ("MothCustomsModel", "value", "I", false)
  | 17 => ("MothCustomsModel", "fault", "I", false)
  | 18 => ("MothCustomsModel", "wrongAt", "I", false)
  | 19 => ("MothCustomsModel", "row", "[I", true)
  | 20 => ("MothCustomsModel", "lanes", "[I", true)
  | 21 => ("MothCustomsModel", "sizes", "[I", true)
  | 22 => ("MothCustomsModel", "cells", "[I", true)
  | 23 => ("MothCustomsModel", "torn", "I", false)
  | _ => ("MothCustomsModel", "had", "[I", true)
def tyX5 : Nat → FieldType := fun k => match k with
  | 0 => .array .int
  | 1 => .array .int
  | 2 => .array .boolean
  | 3 => .int
  | 4 => .int
  | 5 => .array .int
  | 6 => .int
  | 7 => .int
  | 8 => .int
  | 9 => .int
  | 10 => .int
  | 11 => .array .int
  | 12 => .int
  | 13 => .int
  | 14 => .int
  | 15 => .int
  | 16 => .int
  | 17 => .int
  | 18 => .int
  | 19 => .array .int
  | 20 => .array .int
  | 21 => .array .int
  | 22 => .array .int
  | 23 => .int
  | _ => .array .int
theorem nmX5 : ∀ a, a < 25 → ∀ b, b < 25 → a ≠ b → (TX5 a).2.1 ≠ (TX5 b).2.1 := by decide +kernel
theorem tyX5_ok : ∀ k, k < 25 → parseFieldDescriptor (TX5 k).2.2.1 = some (tyX5 k) := by decide +kernel
abbrev cX5_init : ByteArray := prog_7_method_1_code
def yX5_init : MethodName := ⟨RX5, "<init>", "()V"⟩
abbrev cX5_in : ByteArray := prog_7_method_3_code
def yX5_in : MethodName := ⟨RX5, "in", "(JJJ)Z"⟩
abbrev cX5_flag : ByteArray := prog_7_method_4_code
def yX5_flag : MethodName := ⟨RX5, "flag", "(Z)I"⟩
abbrev cX5_firstDraft : ByteArray := prog_7_method_5_code
def yX5_firstDraft : MethodName := ⟨RX5, "firstDraft", "()V"⟩
abbrev cX5_keepDraft : ByteArray := prog_7_method_6_code
def yX5_keepDraft : MethodName := ⟨RX5, "keepDraft", "()V"⟩
abbrev cX5_feed : ByteArray := prog_7_method_7_code
def yX5_feed : MethodName := ⟨RX5, "feed", "(I)I"⟩
abbrev cX5_end : ByteArray := prog_7_method_8_code
def yX5_end : MethodName := ⟨RX5, "end", "(I)I"⟩
abbrev cX5_needs : ByteArray := prog_7_method_9_code
def yX5_needs : MethodName := ⟨RX5, "needs", "(ZI)V"⟩
abbrev cX5_byteAt : ByteArray := prog_7_method_10_code
def yX5_byteAt : MethodName := ⟨RX5, "byteAt", "(I)I"⟩
abbrev cX5_is : ByteArray := prog_7_method_11_code
def yX5_is : MethodName := ⟨RX5, "is", "(IIII)Z"⟩
abbrev cX5_ends : ByteArray := prog_7_method_12_code
def yX5_ends : MethodName := ⟨RX5, "ends", "(IIII)Z"⟩
abbrev cX5_lineNow : ByteArray := prog_7_method_13_code
def yX5_lineNow : MethodName := ⟨RX5, "lineNow", "()I"⟩
abbrev cX5_next : ByteArray := prog_7_method_14_code
def yX5_next : MethodName := ⟨RX5, "next", "()V"⟩
abbrev cX5_looked : ByteArray := prog_7_method_15_code
def yX5_looked : MethodName := ⟨RX5, "looked", "(II)I"⟩
abbrev cX5_readNumber : ByteArray := prog_7_method_16_code
def yX5_readNumber : MethodName := ⟨RX5, "readNumber", "(II)I"⟩
abbrev cX5_readBolt : ByteArray := prog_7_method_17_code
def yX5_readBolt : MethodName := ⟨RX5, "readBolt", "()V"⟩
abbrev cX5_readMoth : ByteArray := prog_7_method_18_code
def yX5_readMoth : MethodName := ⟨RX5, "readMoth", "(I)V"⟩
abbrev cX5_readCamphor : ByteArray := prog_7_method_19_code
def yX5_readCamphor : MethodName := ⟨RX5, "readCamphor", "()V"⟩
abbrev cX5_readLineOf : ByteArray := prog_7_method_20_code
def yX5_readLineOf : MethodName := ⟨RX5, "readLineOf", "(I)V"⟩
abbrev cX5_readLine : ByteArray := prog_7_method_21_code
def yX5_readLine : MethodName := ⟨RX5, "readLine", "()V"⟩
abbrev cX5_text : ByteArray := prog_7_method_22_code
def yX5_text : MethodName := ⟨RX5, "text", "()I"⟩
abbrev cX5_fault : ByteArray := prog_7_method_23_code
def yX5_fault : MethodName := ⟨RX5, "fault", "()I"⟩
abbrev cX5_isBolt : ByteArray := prog_7_method_24_code
def yX5_isBolt : MethodName := ⟨RX5, "isBolt", "(I)Z"⟩
abbrev cX5_isMoth : ByteArray := prog_7_method_25_code
def yX5_isMoth : MethodName := ⟨RX5, "isMoth", "(I)Z"⟩
abbrev cX5_isBale : ByteArray := prog_7_method_26_code
def yX5_isBale : MethodName := ⟨RX5, "isBale", "(I)Z"⟩
abbrev cX5_isPart : ByteArray := prog_7_method_27_code
def yX5_isPart : MethodName := ⟨RX5, "isPart", "(I)Z"⟩
abbrev cX5_starts : ByteArray := prog_7_method_28_code
def yX5_starts : MethodName := ⟨RX5, "starts", "()V"⟩
abbrev cX5_settles : ByteArray := prog_7_method_29_code
def yX5_settles : MethodName := ⟨RX5, "settles", "()V"⟩
abbrev cX5_of : ByteArray := prog_7_method_30_code
def yX5_of : MethodName := ⟨RX5, "of", "(II)I"⟩
abbrev cX5_becomesOf : ByteArray := prog_7_method_31_code
def yX5_becomesOf : MethodName := ⟨RX5, "becomesOf", "(III)V"⟩
abbrev cX5_mothOf : ByteArray := prog_7_method_32_code
def yX5_mothOf : MethodName := ⟨RX5, "mothOf", "(II)I"⟩
abbrev cX5_liesIn : ByteArray := prog_7_method_33_code
def yX5_liesIn : MethodName := ⟨RX5, "liesIn", "(I)I"⟩
abbrev cX5_boltAt : ByteArray := prog_7_method_34_code
def yX5_boltAt : MethodName := ⟨RX5, "boltAt", "(II)I"⟩
abbrev cX5_appetite : ByteArray := prog_7_method_35_code
def yX5_appetite : MethodName := ⟨RX5, "appetite", "(I)I"⟩
abbrev cX5_doesLike : ByteArray := prog_7_method_36_code
def yX5_doesLike : MethodName := ⟨RX5, "doesLike", "(II)Z"⟩
abbrev cX5_eatsNow : ByteArray := prog_7_method_37_code
def yX5_eatsNow : MethodName := ⟨RX5, "eatsNow", "(I)I"⟩
abbrev cX5_nightGoes : ByteArray := prog_7_method_38_code
def yX5_nightGoes : MethodName := ⟨RX5, "nightGoes", "(I)V"⟩
abbrev cX5_everyMoth : ByteArray := prog_7_method_39_code
def yX5_everyMoth : MethodName := ⟨RX5, "everyMoth", "()I"⟩
abbrev cX5_nightsGo : ByteArray := prog_7_method_40_code
def yX5_nightsGo : MethodName := ⟨RX5, "nightsGo", "(I)V"⟩
abbrev cX5_dutyOf : ByteArray := prog_7_method_41_code
def yX5_dutyOf : MethodName := ⟨RX5, "dutyOf", "(I)I"⟩
abbrev cX5_dutyAll : ByteArray := prog_7_method_42_code
def yX5_dutyAll : MethodName := ⟨RX5, "dutyAll", "()I"⟩
abbrev cX5_dutyNext : ByteArray := prog_7_method_43_code
def yX5_dutyNext : MethodName := ⟨RX5, "dutyNext", "()I"⟩
abbrev cX5_allHoles : ByteArray := prog_7_method_44_code
def yX5_allHoles : MethodName := ⟨RX5, "allHoles", "()I"⟩
abbrev cX5_isEaten : ByteArray := prog_7_method_45_code
def yX5_isEaten : MethodName := ⟨RX5, "isEaten", "(I)Z"⟩
abbrev cX5_eaten : ByteArray := prog_7_method_46_code
def yX5_eaten : MethodName := ⟨RX5, "eaten", "()I"⟩
abbrev cX5_rule : ByteArray := prog_7_method_47_code
def yX5_rule : MethodName := ⟨RX5, "rule", "(I)I"⟩
abbrev cX5_bolt : ByteArray := prog_7_method_48_code
def yX5_bolt : MethodName := ⟨RX5, "bolt", "(II)I"⟩
abbrev cX5_moth : ByteArray := prog_7_method_49_code
def yX5_moth : MethodName := ⟨RX5, "moth", "(II)I"⟩
abbrev cX5_bale : ByteArray := prog_7_method_50_code
def yX5_bale : MethodName := ⟨RX5, "bale", "(II)I"⟩
abbrev cX5_becomes : ByteArray := prog_7_method_51_code
def yX5_becomes : MethodName := ⟨RX5, "becomes", "(II)I"⟩
abbrev cX5_folds : ByteArray := prog_7_method_52_code
def yX5_folds : MethodName := ⟨RX5, "folds", "(IIZ)V"⟩
abbrev cX5_folded : ByteArray := prog_7_method_53_code
def yX5_folded : MethodName := ⟨RX5, "folded", "(IIZ)I"⟩
abbrev cX5_fold : ByteArray := prog_7_method_54_code
def yX5_fold : MethodName := ⟨RX5, "fold", "(II)I"⟩
abbrev cX5_under : ByteArray := prog_7_method_55_code
def yX5_under : MethodName := ⟨RX5, "under", "(II)I"⟩
abbrev cX5_swap : ByteArray := prog_7_method_56_code
def yX5_swap : MethodName := ⟨RX5, "swap", "(II)I"⟩
abbrev cX5_camphor : ByteArray := prog_7_method_57_code
def yX5_camphor : MethodName := ⟨RX5, "camphor", "(IZ)I"⟩
abbrev cX5_patch : ByteArray := prog_7_method_58_code
def yX5_patch : MethodName := ⟨RX5, "patch", "(II)I"⟩
abbrev cX5_prick : ByteArray := prog_7_method_59_code
def yX5_prick : MethodName := ⟨RX5, "prick", "(I)I"⟩
abbrev cX5_mostOf : ByteArray := prog_7_method_60_code
def yX5_mostOf : MethodName := ⟨RX5, "mostOf", "(I)I"⟩
abbrev cX5_alter : ByteArray := prog_7_method_61_code
def yX5_alter : MethodName := ⟨RX5, "alter", "(III)I"⟩
abbrev cX5_set : ByteArray := prog_7_method_62_code
def yX5_set : MethodName := ⟨RX5, "set", "(II)I"⟩
abbrev cX5_go : ByteArray := prog_7_method_63_code
def yX5_go : MethodName := ⟨RX5, "go", "(I)I"⟩
abbrev cX5_ahead : ByteArray := prog_7_method_64_code
def yX5_ahead : MethodName := ⟨RX5, "ahead", "(II)I"⟩
abbrev cX5_when : ByteArray := prog_7_method_65_code
def yX5_when : MethodName := ⟨RX5, "when", "(I)I"⟩
abbrev cX5_eats : ByteArray := prog_7_method_66_code
def yX5_eats : MethodName := ⟨RX5, "eats", "(I)I"⟩
abbrev cX5_duty : ByteArray := prog_7_method_67_code
def yX5_duty : MethodName := ⟨RX5, "duty", "(I)I"⟩
abbrev cX5_isRow : ByteArray := prog_7_method_68_code
def yX5_isRow : MethodName := ⟨RX5, "isRow", "(I)Z"⟩
abbrev cX5_rows : ByteArray := prog_7_method_69_code
def yX5_rows : MethodName := ⟨RX5, "rows", "()I"⟩
abbrev cX5_cutsAt : ByteArray := prog_7_method_70_code
def yX5_cutsAt : MethodName := ⟨RX5, "cutsAt", "(II)V"⟩
abbrev cX5_placesNow : ByteArray := prog_7_method_71_code
def yX5_placesNow : MethodName := ⟨RX5, "placesNow", "()I"⟩
abbrev cX5_placeIn : ByteArray := prog_7_method_72_code
def yX5_placeIn : MethodName := ⟨RX5, "placeIn", "(II)I"⟩
abbrev cX5_best : ByteArray := prog_7_method_73_code
def yX5_best : MethodName := ⟨RX5, "best", "(I)I"⟩
abbrev cX5_guard : ByteArray := prog_7_method_74_code
def yX5_guard : MethodName := ⟨RX5, "guard", "(I)I"⟩
abbrev cX5_send : ByteArray := prog_7_method_75_code
def yX5_send : MethodName := ⟨RX5, "send", "(II)I"⟩
abbrev cX5_raise : ByteArray := prog_7_method_76_code
def yX5_raise : MethodName := ⟨RX5, "raise", "(I)I"⟩
abbrev cX5_common : ByteArray := prog_7_method_77_code
def yX5_common : MethodName := ⟨RX5, "common", "(JJ)J"⟩
abbrev cX5_told : ByteArray := prog_7_method_78_code
def yX5_told : MethodName := ⟨RX5, "told", "(JJI)J"⟩
abbrev cX5_waysOf : ByteArray := prog_7_method_79_code
def yX5_waysOf : MethodName := ⟨RX5, "waysOf", "(II)J"⟩
abbrev cX5_allWays : ByteArray := prog_7_method_80_code
def yX5_allWays : MethodName := ⟨RX5, "allWays", "()J"⟩
abbrev cX5_mean : ByteArray := prog_7_method_81_code
def yX5_mean : MethodName := ⟨RX5, "mean", "(II)J"⟩
abbrev cX5_luck : ByteArray := prog_7_method_82_code
def yX5_luck : MethodName := ⟨RX5, "luck", "(III)J"⟩
abbrev cX5_see : ByteArray := prog_7_method_83_code
def yX5_see : MethodName := ⟨RX5, "see", "(II)I"⟩
abbrev cX5_forget : ByteArray := prog_7_method_84_code
def yX5_forget : MethodName := ⟨RX5, "forget", "(I)I"⟩
abbrev cX5_isSo : ByteArray := prog_7_method_85_code
def yX5_isSo : MethodName := ⟨RX5, "isSo", "(I)Z"⟩
abbrev cX5_tastes : ByteArray := prog_7_method_86_code
def yX5_tastes : MethodName := ⟨RX5, "tastes", "(I)I"⟩
abbrev cX5_bought : ByteArray := prog_7_method_87_code
def yX5_bought : MethodName := ⟨RX5, "bought", "()I"⟩
abbrev cX5_pricked : ByteArray := prog_7_method_88_code
def yX5_pricked : MethodName := ⟨RX5, "pricked", "(I)I"⟩
abbrev cX5_liesBy : ByteArray := prog_7_method_89_code
def yX5_liesBy : MethodName := ⟨RX5, "liesBy", "(I)V"⟩
abbrev cX5_lain : ByteArray := prog_7_method_90_code
def yX5_lain : MethodName := ⟨RX5, "lain", "(I)I"⟩
abbrev cX5_drift : ByteArray := prog_7_method_91_code
def yX5_drift : MethodName := ⟨RX5, "drift", "(III)I"⟩
abbrev cX5_copies : ByteArray := prog_7_method_92_code
def yX5_copies : MethodName := ⟨RX5, "copies", "(II)V"⟩
abbrev cX5_keep : ByteArray := prog_7_method_93_code
def yX5_keep : MethodName := ⟨RX5, "keep", "(I)I"⟩
abbrev cX5_back : ByteArray := prog_7_method_94_code
def yX5_back : MethodName := ⟨RX5, "back", "(I)I"⟩
abbrev cX5_isSheet : ByteArray := prog_7_method_95_code
def yX5_isSheet : MethodName := ⟨RX5, "isSheet", "(II)Z"⟩
abbrev cX5_sheet : ByteArray := prog_7_method_96_code
def yX5_sheet : MethodName := ⟨RX5, "sheet", "(III)I"⟩
abbrev cX5_lay : ByteArray := prog_7_method_97_code
def yX5_lay : MethodName := ⟨RX5, "lay", "(III)I"⟩
abbrev cX5_read : ByteArray := prog_7_method_98_code
def yX5_read : MethodName := ⟨RX5, "read", "(IIII)I"⟩
abbrev cX5_torn : ByteArray := prog_7_method_99_code
def yX5_torn : MethodName := ⟨RX5, "torn", "()I"⟩
abbrev cX5_count : ByteArray := prog_7_method_100_code
def yX5_count : MethodName := ⟨RX5, "count", "(I)I"⟩
def RJ6 : String := "java/lang/Integer"
def TJ6 : u_T := fun k => match k with
  | _ => ("", "", "", false)
def tyJ6 : Nat → FieldType := fun k => match k with
  | _ => .int
theorem nmJ6 : ∀ a, a < 0 → ∀ b, b < 0 → a ≠ b → (TJ6 a).2.1 ≠ (TJ6 b).2.1 := by decide +kernel
theorem tyJ6_ok : ∀ k, k < 0 → parseFieldDescriptor (TJ6 k).2.2.1 = some (tyJ6 k) := by decide +kernel
abbrev cJ6_bitCount_0f7a4 : ByteArray := prog_8_method_49_code
def yJ6_bitCount_0f7a4 : MethodName := ⟨RJ6, "bitCount", "(I)I"⟩
def RJ9 : String := "java/lang/Math"
def TJ9 : u_T := fun k => match k with
  | _ => ("", "", "", false)
def tyJ9 : Nat → FieldType := fun k => match k with
  | _ => .int
theorem nmJ9 : ∀ a, a < 0 → ∀ b, b < 0 → a ≠ b → (TJ9 a).2.1 ≠ (TJ9 b).2.1 := by decide +kernel
theorem tyJ9_ok : ∀ k, k < 0 → parseFieldDescriptor (TJ9 k).2.2.1 = some (tyJ9 k) := by decide +kernel
abbrev cJ9_max_7cf53 : ByteArray := prog_9_method_65_code
def yJ9_max_7cf53 : MethodName := ⟨RJ9, "max", "(II)I"⟩
abbrev cJ9_min_7cf53 : ByteArray := prog_9_method_69_code
def yJ9_min_7cf53 : MethodName := ⟨RJ9, "min", "(II)I"⟩
def RJ0 : String := "java/lang/String"
def TJ0 : u_T := fun k => match k with
  | _ => ("", "", "", false)
def tyJ0 : Nat → FieldType := fun k => match k with
  | _ => .int
theorem nmJ0 : ∀ a, a < 0 → ∀ b, b < 0 → a ≠ b → (TJ0 a).2.1 ≠ (TJ0 b).2.1 := by decide +kernel
theorem tyJ0_ok : ∀ k, k < 0 → parseFieldDescriptor (TJ0 k).2.2.1 = some (tyJ0 k) := by decide +kernel
abbrev cJ0_length_8abf5 : ByteArray := prog_10_method_54_code
def yJ0_length_8abf5 : MethodName := ⟨RJ0, "length", "()I"⟩
abbrev cJ0_charAt_5068e : ByteArray := prog_10_method_56_code
def yJ0_charAt_5068e : MethodName := ⟨RJ0, "charAt", "(I)C"⟩
abbrev cJ0_coder_7d493 : ByteArray := prog_10_method_152_code
def yJ0_coder_7d493 : MethodName := ⟨RJ0, "coder", "()B"⟩
abbrev cJ0_isLatin1_aae02 : ByteArray := prog_10_method_154_code
def yJ0_isLatin1_aae02 : MethodName := ⟨RJ0, "isLatin1", "()Z"⟩
abbrev cJ0_checkIndex_df160 : ByteArray := prog_10_method_155_code
def yJ0_checkIndex_df160 : MethodName := ⟨RJ0, "checkIndex", "(II)V"⟩
def RJ1 : String := "java/lang/StringLatin1"
def TJ1 : u_T := fun k => match k with
  | _ => ("", "", "", false)
def tyJ1 : Nat → FieldType := fun k => match k with
  | _ => .int
theorem nmJ1 : ∀ a, a < 0 → ∀ b, b < 0 → a ≠ b → (TJ1 a).2.1 ≠ (TJ1 b).2.1 := by decide +kernel
theorem tyJ1_ok : ∀ k, k < 0 → parseFieldDescriptor (TJ1 k).2.2.1 = some (tyJ1 k) := by decide +kernel
abbrev cJ1_charAt_3b067 : ByteArray := prog_11_method_2_code
def yJ1_charAt_3b067 : MethodName := ⟨RJ1, "charAt", "([BI)C"⟩
def RJ2 : String := "java/lang/StringUTF16"
def TJ2 : u_T := fun k => match k with
  | _ => ("", "", "", false)
def tyJ2 : Nat → FieldType := fun k => match k with
  | _ => .int
theorem nmJ2 : ∀ a, a < 0 → ∀ b, b < 0 → a ≠ b → (TJ2 a).2.1 ≠ (TJ2 b).2.1 := by decide +kernel
theorem tyJ2_ok : ∀ k, k < 0 → parseFieldDescriptor (TJ2 k).2.2.1 = some (tyJ2 k) := by decide +kernel
abbrev cJ2_getChar_3b067 : ByteArray := prog_12_method_5_code
def yJ2_getChar_3b067 : MethodName := ⟨RJ2, "getChar", "([BI)C"⟩
abbrev cJ2_length_9d52b : ByteArray := prog_12_method_6_code
def yJ2_length_9d52b : MethodName := ⟨RJ2, "length", "([B)I"⟩
abbrev cJ2_charAt_3b067 : ByteArray := prog_12_method_83_code
def yJ2_charAt_3b067 : MethodName := ⟨RJ2, "charAt", "([BI)C"⟩
abbrev cJ2_checkIndex_2214a : ByteArray := prog_12_method_91_code
def yJ2_checkIndex_2214a : MethodName := ⟨RJ2, "checkIndex", "(I[B)V"⟩
def RJ10 : String := "java/lang/System"
def TJ10 : u_T := fun k => match k with
  | _ => ("", "", "", false)
def tyJ10 : Nat → FieldType := fun k => match k with
  | _ => .int
theorem nmJ10 : ∀ a, a < 0 → ∀ b, b < 0 → a ≠ b → (TJ10 a).2.1 ≠ (TJ10 b).2.1 := by decide +kernel
theorem tyJ10_ok : ∀ k, k < 0 → parseFieldDescriptor (TJ10 k).2.2.1 = some (tyJ10 k) := by decide +kernel
def RJ3 : String := "jdk/internal/util/Preconditions"
def TJ3 : u_T := fun k => match k with
  | _ => ("", "", "", false)
def tyJ3 : Nat → FieldType := fun k => match k with
  | _ => .int
theorem nmJ3 : ∀ a, a < 0 → ∀ b, b < 0 → a ≠ b → (TJ3 a).2.1 ≠ (TJ3 b).2.1 := by decide +kernel
theorem tyJ3_ok : ∀ k, k < 0 → parseFieldDescriptor (TJ3 k).2.2.1 = some (tyJ3 k) := by decide +kernel
abbrev cJ3_checkIndex_8e157 : ByteArray := prog_14_method_11_code
def yJ3_checkIndex_8e157 : MethodName := ⟨RJ3, "checkIndex", "(IILjava/util/function/BiFunction;)I"⟩
def RL : String := "MothCustomsLaw"
abbrev cL_law : ByteArray := code
def yL_law : MethodName := ⟨RL, "law", "([I)Z"⟩
abbrev vwCl : List vw_C := [(RX0, TX0, 6), (RX1, TX1, 18), (RX2, TX2, 4), (RX3, TX3, 11), (RX4, TX4, 8), (RX5, TX5, 25)]
end
section
/-! J: a judgement of my own over the kit's W. 'J V E fin o pc L st X': from pc, with the locals L, the operand stack st and a heap that holds the world of the pure state X: if the pure answer o is (some of) the method's answer, the machine comes to its end with it. Rules take the machine's step and the pure program's head off together. -/
def jj_tb : List Cond := lw_tbl.filter goodWord
theorem jj_m {w : Cond} (h : w ∈ lw_tbl) (g : goodWord w = true) : w ∈ jj_tb := List.mem_filter.mpr ⟨h, g⟩
theorem jj_g1 {ws : List Cond} (h : ∀ w ∈ ws, w ∈ jj_tb) : GoodIn jj_tb ws := fun w q => ⟨h w q, good_of_word (List.mem_filter.mp (h w q)).2⟩
def jj_R (d : Nat) : Room := { frames := d, cells := 0, slots := 0, locals := 60 * d }
def jj_len : List Nat := [4, 5, 5, 7, 3, 7, 4, 4]
def jj_byt : List (List Int32) := [[98, 111, 108, 116], [112, 108, 97, 105, 110], [112, 105, 99, 107, 121], [103, 108, 117, 116, 116, 111, 110], [102, 97, 116], [99, 97, 109, 112, 104, 111, 114], [109, 111, 111, 110], [114, 97, 116, 101]]
def jj_six : List Nat := [111, 117, 119, 121, 123, 125, 126, 127]
def jj_stx : List String := ["bolt", "plain", "picky", "glutton", "fat", "camphor", "moon", "rate"]
/-- private members that a nest mate calls: caller, place, method, host -/
def jj_nest : List (String × Nat × MethodName × String) := [("MothCustoms", 11, ⟨"MothCustoms$Tape", "<init>", "()V"⟩, "MothCustoms"), ("MothCustoms", 18, ⟨"MothCustoms$Shed", "<init>", "()V"⟩, "MothCustoms"), ("MothCustoms", 36, ⟨"MothCustoms$Sheet", "<init>", "()V"⟩, "MothCustoms"), ("MothCustoms", 39, ⟨"MothCustoms$Search", "<init>", "()V"⟩, "MothCustoms"), ("MothCustoms$Search", 11, ⟨"MothCustoms$Shed", "<init>", "()V"⟩, "MothCustoms"), ("MothCustoms$Tape", 93, ⟨"MothCustoms", "mostOfTrait", "(I)I"⟩, "MothCustoms"), ("MothCustoms$Tape", 85, ⟨"MothCustoms", "within", "(III)Z"⟩, "MothCustoms"), ("MothCustoms$Shed", 80, ⟨"MothCustoms", "within", "(III)Z"⟩, "MothCustoms"), ("MothCustoms$Sheet", 26, ⟨"MothCustoms", "within", "(III)Z"⟩, "MothCustoms")]
/-- the String constants of the claim: cells K i, their bytes at Z i, none of them in A -/
def jj_St (K Z : Nat → Nat) (A : Nat → Prop) (U : State) (H : Heap) : Prop := vk_S 8 jj_len jj_byt K Z A U H ∧ (∀ i : Nat, i < 8 → vk_R RX3 (jj_six.getD i 0) (jj_stx.getD i "") (K i) U) ∧ (∀ q ∈ jj_nest, va_Nw (.methodLinkNest q.1 q.2.1 q.2.2.1 q.2.2.2) U) ∧ va_Z "java/lang/String" "COMPACT_STRINGS" "Z" (.int 1) A U H ∧ va_Zq "jdk/internal/util/Preconditions" "SIOOBE_FORMATTER" "Ljava/util/function/BiFunction;" A U H
/-- several ways to one place: the rest of the program by what differs -/
def jn {α β : Type} (body : (β → α) → α) (k : β → α) : α := body k
def lt {α β : Type} (e : α) (f : α → β) : β := f e
abbrev JV (σ : Type) : Type := va_G × List vw_C × List (ClassId × FieldType) × (σ → va_W) × (Nat → Nat) × (Nat → Nat)
abbrev JE (σ ρ : Type) : Type := Program × Launch × Env × Room × State × MethodId × Array Value × List Frame × Method × Code × Nat × (Nat → Prop) × Nat × Nat × (State → Prop) × (ρ × σ)
def J {σ ρ α : Type} (V : JV σ) (E : JE σ ρ) (fin : α → ρ × σ) (o : Option α) (pc : Nat) (L : List (Nat × Value)) (st : List Value) (X : σ) : Prop :=
  match E with
  | (p, l, e, R, s, m, args, below, meth, c, nL, A, cn, sn, Q, res) => o.map fin = some res → ∀ (H : Heap) (locs : List Loc) (ls : Array Slot), va_P V.1 V.2.1 (V.2.2.2.1 X) H → va_D A (V.2.2.2.1 X) → va_S A s.heap H locs → lv_has ls nL L → W p l e R s m args below meth c H locs cn sn Q (F0 m pc ls st)
/-- how an answer is left: the instruction, by the answer's kind -/
def jj_ret (ret : Option FieldType) (v : Option Value) (i : Instr) : Prop := (ret = none ∧ v = none ∧ i = .return_) ∨ (∃ x : Int64, ret = some .long ∧ v = some (.long x) ∧ i = .lreturn) ∨ (∃ (ty : FieldType) (x : Int32), ret = some ty ∧ v = some (.int x) ∧ narrow ty (.int x) = .int x ∧ i = .ireturn)
def JOk {σ ρ : Type} (V : JV σ) (E : JE σ ρ) (cc : ByteArray) (own : String) (n d : Nat) (ret : Option FieldType) (enc : ρ → Option Value) : Prop :=
  match E with
  | (p, l, e, R, s, m, args, below, meth, c, nL, A, cn, sn, Q, res) => p.tables.exec = Jvm.exec ∧ c.code = cc ∧ (c.maxLocals = n ∧ nL = n) ∧ s.vm.findClass own = some m.cls ∧ (∀ w ∈ jj_tb, w.before args s = true) ∧ (d ≤ R.frames ∧ 60 * d ≤ R.locals ∧ cn ≤ R.cells ∧ sn ≤ R.slots) ∧ va_K V.1 V.2.1 V.2.2.1 s ∧ (∀ q : Nat, s.heap.size ≤ q → A q) ∧ jj_St V.2.2.2.2.1 V.2.2.2.2.2 A s s.heap ∧
    (∀ (i : Instr) (H : Heap) (locs : List Loc) (ls : Array Slot) (pc : Nat), va_P V.1 V.2.1 (V.2.2.2.1 res.2) H → va_D A (V.2.2.2.1 res.2) → va_S A s.heap H locs → jj_ret ret (enc res.1) i → decode cc pc = .ok (i, 1) → W p l e R s m args below meth c H locs cn sn Q (F0 m pc ls (enc res.1).toList))
/-- an instruction at its place, and the place behind it -/
def jd (cc : ByteArray) (pc : Nat) (i : Instr) (len pc' : Nat) : Prop := decode cc pc = .ok (i, len) ∧ pc + len = pc'
/-- a method's contract at one pure state: if the pure answer is there, the machine gives it -/
def JC {σ ρ : Type} (l : Launch) (V : JV σ) (y : MethodName) (cc : ByteArray) (n : Nat) (ret : Option FieldType) (enc : ρ → Option Value) (d : Nat) (av : List Value) (X : σ) (o : Option (ρ × σ)) : Prop :=
  ∀ res : ρ × σ, o = some res → ∀ sz : Nat, Met l y (.code y cc n ret :: jj_tb) (jj_R d)
    (va_Pc av (fun U => U.heap.size = sz ∧ va_P V.1 V.2.1 (V.2.2.2.1 X) U.heap ∧ va_K V.1 V.2.1 V.2.2.1 U ∧ va_D (fun _ => True) (V.2.2.2.1 X) ∧ jj_St V.2.2.2.2.1 V.2.2.2.2.2 (va_A (V.2.2.2.1 X) sz) U U.heap))
    (fun _ st oc t => (oc = .returned (enc res.1) ∧ va_P V.1 V.2.1 (V.2.2.2.1 res.2) t.heap ∧ va_K V.1 V.2.1 V.2.2.1 t ∧ va_D (va_A (V.2.2.2.1 X) sz) (V.2.2.2.1 res.2)) ∧ va_F (va_A (V.2.2.2.1 X) sz) st t)
    0 0 (va_A (V.2.2.2.1 X) sz)
theorem jj_of {σ ρ : Type} {l : Launch} {V : JV σ} {y : MethodName} {cc : ByteArray} {n : Nat} {ret : Option FieldType} {enc : ρ → Option Value} {d : Nat} {av : List Value} {X : σ} {α : Type} {fin : α → ρ × σ} {o : Option α} (hy : plainName y.cls = true) (hn : (lg_sl av).length ≤ n) (body : ∀ E : JE σ ρ, E.2.1 = l → JOk V E cc y.cls n d ret enc → J V E fin o 0 (lv_args 0 av) [] X) : JC l V y cc n ret enc d av X (o.map fin) := by
  intro res ho sz
  refine Met.ofW (cc := cc) (maxL := n) (ret := ret) hy rfl ?_
  intro p e s m args below meth c s₁ B hml hv
  obtain ⟨rfl, hsz, hP, hK, hD0, hSt⟩ := hv
  subst hsz
  have hts := atoms_spec (ws := .code y cc n ret :: jj_tb) B.pre
  have hD := hD0.self (sz := s.heap.size)
  have hl := lv_entry av hn
  rw [lg_entry_eq]
  have hlocks := B.notSynchronized
  refine body (p, l, e, jj_R d, s, m, av.toArray, below, meth, c, n, va_A (V.2.2.2.1 X) s.heap.size, 0, 0, _, res) rfl ⟨B.exec, B.bytes, ⟨hml, rfl⟩, findClass_of_methodNamed B.named, fun w hw => hts w (List.mem_cons_of_mem _ hw), ⟨Nat.le_refl _, Nat.le_refl _, Nat.le_refl _, Nat.le_refl _⟩, hK, fun q h => Or.inr h, hSt, ?_⟩ ho _ _ _ hP hD va_S.rf hl
  intro i H locs ls pc hP hD hS hi hdg
  have hx := B.exec
  have hb := B.bytes
  have hr := B.returns
  rcases hi with ⟨e1, e2, e3⟩ | ⟨x, e1, e2, e3⟩ | ⟨ty, x, e1, e2, e4, e3⟩
  · rw [e2]
    rw [e1] at hr
    rw [e3] at hdg
    exact W.vret hx hb hr (fun t ht hW => ⟨⟨rfl, by rw [ht]; exact hP, va_K.moved hW.alike hK, hD⟩, hS.F ht⟩) hS.2.2 hdg hlocks
  · rw [e2]
    rw [e1] at hr
    rw [e3] at hdg
    exact W.lret hx hb hr (fun t ht hW => ⟨⟨rfl, by rw [ht]; exact hP, va_K.moved hW.alike hK, hD⟩, hS.F ht⟩) hS.2.2 hdg hlocks
  · rw [e2]
    rw [e1] at hr
    rw [e3] at hdg
    exact W.zret hx hb hr e4 (fun t ht hW => ⟨⟨rfl, by rw [ht]; exact hP, va_K.moved hW.alike hK, hD⟩, hS.F ht⟩) hS.2.2 hdg hlocks
section JR
variable {σ ρ : Type} {V : JV σ} {E : JE σ ρ} {cc : ByteArray} {own : String} {n d : Nat} {ret : Option FieldType} {enc : ρ → Option Value} {α : Type} {fin : α → ρ × σ} {o : Option α} {pc pc' : Nat} {L L' : List (Nat × Value)} {st : List Value} {X : σ}

theorem J_none : J V E fin none pc L st X := by
  obtain ⟨p, l, e, R, s, m, args, below, meth, c, nL, A, cn, sn, Q, res⟩ := E
  intro ho
  exact absurd ho (by simp)
theorem J_eq {o' : Option α} (h : o = o') (k : J V E fin o' pc L st X) : J V E fin o pc L st X := h ▸ k
theorem J_sub (ks : List Nat) (h : lv_pick L ks = L') (k : J V E fin o pc L' st X) : J V E fin o pc L st X := by
  obtain ⟨p, l, e, R, s, m, args, below, meth, c, nL, A, cn, sn, Q, res⟩ := E
  intro ho H locs ls hP hD hS hl
  exact k ho H locs ls hP hD hS (lv_sub hl ks h)
theorem J_iconst (hE : JOk V E cc own n d ret enc) {z : Int} {v : Int32} (hd : jd cc pc (.iconst z) 1 pc') (hv : Int32.ofInt z = v) (k : J V E fin o pc' L (.int v :: st) X) : J V E fin o pc L (st) X := by
  obtain ⟨p, l, e, R, s, m, args, below, meth, c, nL, A, cn, sn, Q, res⟩ := E
  obtain ⟨hx, hb, ⟨hml, hnL⟩, hown, hts, hR, hK, hA, hSt, hq⟩ := hE
  obtain ⟨hd, rfl⟩ := hd
  intro ho H locs ls hP hD hS hl
  exact lv_iconst hx hb hd hv (k ho H locs ls hP hD hS hl)
theorem J_bipush (hE : JOk V E cc own n d ret enc) {z : Int} {v : Int32} (hd : jd cc pc (.bipush z) 2 pc') (hv : (Int8.ofInt z).toInt32 = v) (k : J V E fin o pc' L (.int v :: st) X) : J V E fin o pc L (st) X := by
  obtain ⟨p, l, e, R, s, m, args, below, meth, c, nL, A, cn, sn, Q, res⟩ := E
  obtain ⟨hx, hb, ⟨hml, hnL⟩, hown, hts, hR, hK, hA, hSt, hq⟩ := hE
  obtain ⟨hd, rfl⟩ := hd
  intro ho H locs ls hP hD hS hl
  exact lv_bipush hx hb hd hv (k ho H locs ls hP hD hS hl)
theorem J_sipush (hE : JOk V E cc own n d ret enc) {z : Int} {v : Int32} (hd : jd cc pc (.sipush z) 3 pc') (hv : (Int16.ofInt z).toInt32 = v) (k : J V E fin o pc' L (.int v :: st) X) : J V E fin o pc L (st) X := by
  obtain ⟨p, l, e, R, s, m, args, below, meth, c, nL, A, cn, sn, Q, res⟩ := E
  obtain ⟨hx, hb, ⟨hml, hnL⟩, hown, hts, hR, hK, hA, hSt, hq⟩ := hE
  obtain ⟨hd, rfl⟩ := hd
  intro ho H locs ls hP hD hS hl
  exact lv_sipush hx hb hd hv (k ho H locs ls hP hD hS hl)
theorem J_lconst (hE : JOk V E cc own n d ret enc) {z : Fin 2} {v : Int64} (hd : jd cc pc (.lconst z) 1 pc') (hv : Int64.ofNat (z : Nat) = v) (k : J V E fin o pc' L (.long v :: st) X) : J V E fin o pc L (st) X := by
  obtain ⟨p, l, e, R, s, m, args, below, meth, c, nL, A, cn, sn, Q, res⟩ := E
  obtain ⟨hx, hb, ⟨hml, hnL⟩, hown, hts, hR, hK, hA, hSt, hq⟩ := hE
  obtain ⟨hd, rfl⟩ := hd
  intro ho H locs ls hP hD hS hl
  exact lv_lconst hx hb hd hv (k ho H locs ls hP hD hS hl)
theorem J_ldc (hE : JOk V E cc own n d ret enc) {ix : Nat} {v : Int32} (hd : jd cc pc (.ldc ix) 2 pc') (hw : Cond.constant own ix v ∈ jj_tb) (k : J V E fin o pc' L (.int v :: st) X) : J V E fin o pc L (st) X := by
  obtain ⟨p, l, e, R, s, m, args, below, meth, c, nL, A, cn, sn, Q, res⟩ := E
  obtain ⟨hx, hb, ⟨hml, hnL⟩, hown, hts, hR, hK, hA, hSt, hq⟩ := hE
  obtain ⟨hd, rfl⟩ := hd
  intro ho H locs ls hP hD hS hl
  exact lv_ldc hx hb hown (hts _ hw) hd (k ho H locs ls hP hD hS hl)
theorem J_ldcw (hE : JOk V E cc own n d ret enc) {ix : Nat} {v : Int32} (hd : jd cc pc (.ldc_w ix) 3 pc') (hw : Cond.constant own ix v ∈ jj_tb) (k : J V E fin o pc' L (.int v :: st) X) : J V E fin o pc L (st) X := by
  obtain ⟨p, l, e, R, s, m, args, below, meth, c, nL, A, cn, sn, Q, res⟩ := E
  obtain ⟨hx, hb, ⟨hml, hnL⟩, hown, hts, hR, hK, hA, hSt, hq⟩ := hE
  obtain ⟨hd, rfl⟩ := hd
  intro ho H locs ls hP hD hS hl
  exact lv_ldcw hx hb hown (hts _ hw) hd (k ho H locs ls hP hD hS hl)
theorem J_ldc2 (hE : JOk V E cc own n d ret enc) {ix : Nat} {v : Int64} (hd : jd cc pc (.ldc2_w ix) 3 pc') (hw : Cond.constantLong own ix v ∈ jj_tb) (k : J V E fin o pc' L (.long v :: st) X) : J V E fin o pc L (st) X := by
  obtain ⟨p, l, e, R, s, m, args, below, meth, c, nL, A, cn, sn, Q, res⟩ := E
  obtain ⟨hx, hb, ⟨hml, hnL⟩, hown, hts, hR, hK, hA, hSt, hq⟩ := hE
  obtain ⟨hd, rfl⟩ := hd
  intro ho H locs ls hP hD hS hl
  exact lv_ldc2 hx hb hown (hts _ hw) hd (k ho H locs ls hP hD hS hl)
theorem J_iload_n (hE : JOk V E cc own n d ret enc) {f : Fin 4} {i : Nat} {x : Int32} (hd : jd cc pc (.iload_n f) 1 pc') (j : Nat) (hi : (f : Nat) = i) (hk : L[j]? = some (i, .int x)) (k : J V E fin o pc' L (.int x :: st) X) : J V E fin o pc L (st) X := by
  obtain ⟨p, l, e, R, s, m, args, below, meth, c, nL, A, cn, sn, Q, res⟩ := E
  obtain ⟨hx, hb, ⟨hml, hnL⟩, hown, hts, hR, hK, hA, hSt, hq⟩ := hE
  obtain ⟨hd, rfl⟩ := hd
  intro ho H locs ls hP hD hS hl
  exact lv_iload_n hx hb hd hi (lv_at hl j hk) (k ho H locs ls hP hD hS hl)
theorem J_iload (hE : JOk V E cc own n d ret enc) {i : Nat} {x : Int32} (hd : jd cc pc (.iload i) 2 pc') (j : Nat) (hk : L[j]? = some (i, .int x)) (k : J V E fin o pc' L (.int x :: st) X) : J V E fin o pc L (st) X := by
  obtain ⟨p, l, e, R, s, m, args, below, meth, c, nL, A, cn, sn, Q, res⟩ := E
  obtain ⟨hx, hb, ⟨hml, hnL⟩, hown, hts, hR, hK, hA, hSt, hq⟩ := hE
  obtain ⟨hd, rfl⟩ := hd
  intro ho H locs ls hP hD hS hl
  exact lv_iload hx hb hd (lv_at hl j hk) (k ho H locs ls hP hD hS hl)
theorem J_istore_n (hE : JOk V E cc own n d ret enc) {f : Fin 4} {i : Nat} {x : Int32} (hd : jd cc pc (.istore_n f) 1 pc') (hn : i < n) (hi : (f : Nat) = i) (hL : (i, Value.int x) :: L.filter (fun q => !(q.1 == i) && !(q.1 + 1 == i && q.2.category == 2)) = L') (k : J V E fin o pc' L' st X) : J V E fin o pc L (.int x :: st) X := by
  obtain ⟨p, l, e, R, s, m, args, below, meth, c, nL, A, cn, sn, Q, res⟩ := E
  obtain ⟨hx, hb, ⟨hml, hnL⟩, hown, hts, hR, hK, hA, hSt, hq⟩ := hE
  obtain ⟨hd, rfl⟩ := hd
  subst hnL
  intro ho H locs ls hP hD hS hl
  exact lv_istore_n hx hb hd hi hl hn hL (fun ls' hl' => k ho H locs ls' hP hD hS hl')
theorem J_istore (hE : JOk V E cc own n d ret enc) {i : Nat} {x : Int32} (hd : jd cc pc (.istore i) 2 pc') (hn : i < n) (hL : (i, Value.int x) :: L.filter (fun q => !(q.1 == i) && !(q.1 + 1 == i && q.2.category == 2)) = L') (k : J V E fin o pc' L' st X) : J V E fin o pc L (.int x :: st) X := by
  obtain ⟨p, l, e, R, s, m, args, below, meth, c, nL, A, cn, sn, Q, res⟩ := E
  obtain ⟨hx, hb, ⟨hml, hnL⟩, hown, hts, hR, hK, hA, hSt, hq⟩ := hE
  obtain ⟨hd, rfl⟩ := hd
  subst hnL
  intro ho H locs ls hP hD hS hl
  exact lv_istore hx hb hd hl hn hL (fun ls' hl' => k ho H locs ls' hP hD hS hl')
theorem J_lload_n (hE : JOk V E cc own n d ret enc) {f : Fin 4} {i : Nat} {x : Int64} (hd : jd cc pc (.lload_n f) 1 pc') (j : Nat) (hi : (f : Nat) = i) (hk : L[j]? = some (i, .long x)) (k : J V E fin o pc' L (.long x :: st) X) : J V E fin o pc L (st) X := by
  obtain ⟨p, l, e, R, s, m, args, below, meth, c, nL, A, cn, sn, Q, res⟩ := E
  obtain ⟨hx, hb, ⟨hml, hnL⟩, hown, hts, hR, hK, hA, hSt, hq⟩ := hE
  obtain ⟨hd, rfl⟩ := hd
  intro ho H locs ls hP hD hS hl
  exact lv_lload_n hx hb hd hi (lv_at hl j hk) (k ho H locs ls hP hD hS hl)
theorem J_lload (hE : JOk V E cc own n d ret enc) {i : Nat} {x : Int64} (hd : jd cc pc (.lload i) 2 pc') (j : Nat) (hk : L[j]? = some (i, .long x)) (k : J V E fin o pc' L (.long x :: st) X) : J V E fin o pc L (st) X := by
  obtain ⟨p, l, e, R, s, m, args, below, meth, c, nL, A, cn, sn, Q, res⟩ := E
  obtain ⟨hx, hb, ⟨hml, hnL⟩, hown, hts, hR, hK, hA, hSt, hq⟩ := hE
  obtain ⟨hd, rfl⟩ := hd
  intro ho H locs ls hP hD hS hl
  exact lv_lload hx hb hd (lv_at hl j hk) (k ho H locs ls hP hD hS hl)
theorem J_lstore_n (hE : JOk V E cc own n d ret enc) {f : Fin 4} {i : Nat} {x : Int64} (hd : jd cc pc (.lstore_n f) 1 pc') (hn : i + 1 < n) (hi : (f : Nat) = i) (hL : (i, Value.long x) :: L.filter (fun q => !(q.1 == i) && (!(q.1 == i + 1) && !(q.1 + 1 == i && q.2.category == 2))) = L') (k : J V E fin o pc' L' st X) : J V E fin o pc L (.long x :: st) X := by
  obtain ⟨p, l, e, R, s, m, args, below, meth, c, nL, A, cn, sn, Q, res⟩ := E
  obtain ⟨hx, hb, ⟨hml, hnL⟩, hown, hts, hR, hK, hA, hSt, hq⟩ := hE
  obtain ⟨hd, rfl⟩ := hd
  subst hnL
  intro ho H locs ls hP hD hS hl
  exact lv_lstore_n hx hb hd hi hl hn hL (fun ls' hl' => k ho H locs ls' hP hD hS hl')
theorem J_lstore (hE : JOk V E cc own n d ret enc) {i : Nat} {x : Int64} (hd : jd cc pc (.lstore i) 2 pc') (hn : i + 1 < n) (hL : (i, Value.long x) :: L.filter (fun q => !(q.1 == i) && (!(q.1 == i + 1) && !(q.1 + 1 == i && q.2.category == 2))) = L') (k : J V E fin o pc' L' st X) : J V E fin o pc L (.long x :: st) X := by
  obtain ⟨p, l, e, R, s, m, args, below, meth, c, nL, A, cn, sn, Q, res⟩ := E
  obtain ⟨hx, hb, ⟨hml, hnL⟩, hown, hts, hR, hK, hA, hSt, hq⟩ := hE
  obtain ⟨hd, rfl⟩ := hd
  subst hnL
  intro ho H locs ls hP hD hS hl
  exact lv_lstore hx hb hd hl hn hL (fun ls' hl' => k ho H locs ls' hP hD hS hl')
theorem J_aload_n (hE : JOk V E cc own n d ret enc) {f : Fin 4} {i : Nat} {x : Nat} (hd : jd cc pc (.aload_n f) 1 pc') (j : Nat) (hi : (f : Nat) = i) (hk : L[j]? = some (i, .ref x)) (k : J V E fin o pc' L (.ref x :: st) X) : J V E fin o pc L (st) X := by
  obtain ⟨p, l, e, R, s, m, args, below, meth, c, nL, A, cn, sn, Q, res⟩ := E
  obtain ⟨hx, hb, ⟨hml, hnL⟩, hown, hts, hR, hK, hA, hSt, hq⟩ := hE
  obtain ⟨hd, rfl⟩ := hd
  intro ho H locs ls hP hD hS hl
  exact lv_aload_n hx hb hd hi (lv_at hl j hk) (k ho H locs ls hP hD hS hl)
theorem J_aload (hE : JOk V E cc own n d ret enc) {i : Nat} {x : Nat} (hd : jd cc pc (.aload i) 2 pc') (j : Nat) (hk : L[j]? = some (i, .ref x)) (k : J V E fin o pc' L (.ref x :: st) X) : J V E fin o pc L (st) X := by
  obtain ⟨p, l, e, R, s, m, args, below, meth, c, nL, A, cn, sn, Q, res⟩ := E
  obtain ⟨hx, hb, ⟨hml, hnL⟩, hown, hts, hR, hK, hA, hSt, hq⟩ := hE
  obtain ⟨hd, rfl⟩ := hd
  intro ho H locs ls hP hD hS hl
  exact lv_aload hx hb hd (lv_at hl j hk) (k ho H locs ls hP hD hS hl)
theorem J_astore_n (hE : JOk V E cc own n d ret enc) {f : Fin 4} {i : Nat} {x : Nat} (hd : jd cc pc (.astore_n f) 1 pc') (hn : i < n) (hi : (f : Nat) = i) (hL : (i, Value.ref x) :: L.filter (fun q => !(q.1 == i) && !(q.1 + 1 == i && q.2.category == 2)) = L') (k : J V E fin o pc' L' st X) : J V E fin o pc L (.ref x :: st) X := by
  obtain ⟨p, l, e, R, s, m, args, below, meth, c, nL, A, cn, sn, Q, res⟩ := E
  obtain ⟨hx, hb, ⟨hml, hnL⟩, hown, hts, hR, hK, hA, hSt, hq⟩ := hE
  obtain ⟨hd, rfl⟩ := hd
  subst hnL
  intro ho H locs ls hP hD hS hl
  exact lv_astore_n hx hb hd hi hl hn hL (fun ls' hl' => k ho H locs ls' hP hD hS hl')
theorem J_astore (hE : JOk V E cc own n d ret enc) {i : Nat} {x : Nat} (hd : jd cc pc (.astore i) 2 pc') (hn : i < n) (hL : (i, Value.ref x) :: L.filter (fun q => !(q.1 == i) && !(q.1 + 1 == i && q.2.category == 2)) = L') (k : J V E fin o pc' L' st X) : J V E fin o pc L (.ref x :: st) X := by
  obtain ⟨p, l, e, R, s, m, args, below, meth, c, nL, A, cn, sn, Q, res⟩ := E
  obtain ⟨hx, hb, ⟨hml, hnL⟩, hown, hts, hR, hK, hA, hSt, hq⟩ := hE
  obtain ⟨hd, rfl⟩ := hd
  subst hnL
  intro ho H locs ls hP hD hS hl
  exact lv_astore hx hb hd hl hn hL (fun ls' hl' => k ho H locs ls' hP hD hS hl')
theorem J_iinc (hE : JOk V E cc own n d ret enc) {i j : Nat} {z : Int} {x v : Int32} (hd : jd cc pc (.iinc i z) 3 pc') (hk : L[j]? = some (i, .int x)) (hv : x + Int32.ofInt z = v) (hn : i < n) (hL : (i, Value.int v) :: L.filter (fun q => !(q.1 == i) && !(q.1 + 1 == i && q.2.category == 2)) = L') (k : J V E fin o pc' L' st X) : J V E fin o pc L st X := by
  obtain ⟨p, l, e, R, s, m, args, below, meth, c, nL, A, cn, sn, Q, res⟩ := E
  obtain ⟨hx, hb, ⟨hml, hnL⟩, hown, hts, hR, hK, hA, hSt, hq⟩ := hE
  obtain ⟨hd, rfl⟩ := hd
  subst hnL
  intro ho H locs ls hP hD hS hl
  exact lv_iinc hx hb hd hl hk hv hn hL (fun ls' hl' => k ho H locs ls' hP hD hS hl')
theorem J_iadd (hE : JOk V E cc own n d ret enc) {x y : Int32} (hd : jd cc pc .iadd 1 pc')  (k : J V E fin o pc' L (.int (x + y) :: st) X) : J V E fin o pc L (.int y :: .int x :: st) X := by
  obtain ⟨p, l, e, R, s, m, args, below, meth, c, nL, A, cn, sn, Q, res⟩ := E
  obtain ⟨hx, hb, ⟨hml, hnL⟩, hown, hts, hR, hK, hA, hSt, hq⟩ := hE
  obtain ⟨hd, rfl⟩ := hd
  intro ho H locs ls hP hD hS hl
  exact lv_iadd hx hb hd (k ho H locs ls hP hD hS hl)
theorem J_isub (hE : JOk V E cc own n d ret enc) {x y : Int32} (hd : jd cc pc .isub 1 pc')  (k : J V E fin o pc' L (.int (x - y) :: st) X) : J V E fin o pc L (.int y :: .int x :: st) X := by
  obtain ⟨p, l, e, R, s, m, args, below, meth, c, nL, A, cn, sn, Q, res⟩ := E
  obtain ⟨hx, hb, ⟨hml, hnL⟩, hown, hts, hR, hK, hA, hSt, hq⟩ := hE
  obtain ⟨hd, rfl⟩ := hd
  intro ho H locs ls hP hD hS hl
  exact lv_isub hx hb hd (k ho H locs ls hP hD hS hl)
theorem J_imul (hE : JOk V E cc own n d ret enc) {x y : Int32} (hd : jd cc pc .imul 1 pc')  (k : J V E fin o pc' L (.int (x * y) :: st) X) : J V E fin o pc L (.int y :: .int x :: st) X := by
  obtain ⟨p, l, e, R, s, m, args, below, meth, c, nL, A, cn, sn, Q, res⟩ := E
  obtain ⟨hx, hb, ⟨hml, hnL⟩, hown, hts, hR, hK, hA, hSt, hq⟩ := hE
  obtain ⟨hd, rfl⟩ := hd
  intro ho H locs ls hP hD hS hl
  exact lv_imul hx hb hd (k ho H locs ls hP hD hS hl)
theorem J_iand (hE : JOk V E cc own n d ret enc) {x y : Int32} (hd : jd cc pc .iand 1 pc')  (k : J V E fin o pc' L (.int (x &&& y) :: st) X) : J V E fin o pc L (.int y :: .int x :: st) X := by
  obtain ⟨p, l, e, R, s, m, args, below, meth, c, nL, A, cn, sn, Q, res⟩ := E
  obtain ⟨hx, hb, ⟨hml, hnL⟩, hown, hts, hR, hK, hA, hSt, hq⟩ := hE
  obtain ⟨hd, rfl⟩ := hd
  intro ho H locs ls hP hD hS hl
  exact lv_iand hx hb hd (k ho H locs ls hP hD hS hl)
theorem J_ior (hE : JOk V E cc own n d ret enc) {x y : Int32} (hd : jd cc pc .ior 1 pc')  (k : J V E fin o pc' L (.int (x ||| y) :: st) X) : J V E fin o pc L (.int y :: .int x :: st) X := by
  obtain ⟨p, l, e, R, s, m, args, below, meth, c, nL, A, cn, sn, Q, res⟩ := E
  obtain ⟨hx, hb, ⟨hml, hnL⟩, hown, hts, hR, hK, hA, hSt, hq⟩ := hE
  obtain ⟨hd, rfl⟩ := hd
  intro ho H locs ls hP hD hS hl
  exact lv_ior hx hb hd (k ho H locs ls hP hD hS hl)
theorem J_ixor (hE : JOk V E cc own n d ret enc) {x y : Int32} (hd : jd cc pc .ixor 1 pc')  (k : J V E fin o pc' L (.int (x ^^^ y) :: st) X) : J V E fin o pc L (.int y :: .int x :: st) X := by
  obtain ⟨p, l, e, R, s, m, args, below, meth, c, nL, A, cn, sn, Q, res⟩ := E
  obtain ⟨hx, hb, ⟨hml, hnL⟩, hown, hts, hR, hK, hA, hSt, hq⟩ := hE
  obtain ⟨hd, rfl⟩ := hd
  intro ho H locs ls hP hD hS hl
  exact lv_ixor hx hb hd (k ho H locs ls hP hD hS hl)
theorem J_ishl (hE : JOk V E cc own n d ret enc) {x y : Int32} (hd : jd cc pc .ishl 1 pc')  (k : J V E fin o pc' L (.int (x <<< (y &&& 31)) :: st) X) : J V E fin o pc L (.int y :: .int x :: st) X := by
  obtain ⟨p, l, e, R, s, m, args, below, meth, c, nL, A, cn, sn, Q, res⟩ := E
  obtain ⟨hx, hb, ⟨hml, hnL⟩, hown, hts, hR, hK, hA, hSt, hq⟩ := hE
  obtain ⟨hd, rfl⟩ := hd
  intro ho H locs ls hP hD hS hl
  exact lv_ishl hx hb hd (k ho H locs ls hP hD hS hl)
theorem J_ishr (hE : JOk V E cc own n d ret enc) {x y : Int32} (hd : jd cc pc .ishr 1 pc')  (k : J V E fin o pc' L (.int (x >>> (y &&& 31)) :: st) X) : J V E fin o pc L (.int y :: .int x :: st) X := by
  obtain ⟨p, l, e, R, s, m, args, below, meth, c, nL, A, cn, sn, Q, res⟩ := E
  obtain ⟨hx, hb, ⟨hml, hnL⟩, hown, hts, hR, hK, hA, hSt, hq⟩ := hE
  obtain ⟨hd, rfl⟩ := hd
  intro ho H locs ls hP hD hS hl
  exact lv_ishr hx hb hd (k ho H locs ls hP hD hS hl)
theorem J_iushr (hE : JOk V E cc own n d ret enc) {x y : Int32} (hd : jd cc pc .iushr 1 pc')  (k : J V E fin o pc' L (.int (x.toUInt32 >>> (y.toUInt32 &&& Int32.toUInt32 31)).toInt32 :: st) X) : J V E fin o pc L (.int y :: .int x :: st) X := by
  obtain ⟨p, l, e, R, s, m, args, below, meth, c, nL, A, cn, sn, Q, res⟩ := E
  obtain ⟨hx, hb, ⟨hml, hnL⟩, hown, hts, hR, hK, hA, hSt, hq⟩ := hE
  obtain ⟨hd, rfl⟩ := hd
  intro ho H locs ls hP hD hS hl
  exact lv_iushr hx hb hd rfl (k ho H locs ls hP hD hS hl)
theorem J_ladd (hE : JOk V E cc own n d ret enc) {x y : Int64} (hd : jd cc pc .ladd 1 pc')  (k : J V E fin o pc' L (.long (x + y) :: st) X) : J V E fin o pc L (.long y :: .long x :: st) X := by
  obtain ⟨p, l, e, R, s, m, args, below, meth, c, nL, A, cn, sn, Q, res⟩ := E
  obtain ⟨hx, hb, ⟨hml, hnL⟩, hown, hts, hR, hK, hA, hSt, hq⟩ := hE
  obtain ⟨hd, rfl⟩ := hd
  intro ho H locs ls hP hD hS hl
  exact lv_ladd hx hb hd (k ho H locs ls hP hD hS hl)
theorem J_lsub (hE : JOk V E cc own n d ret enc) {x y : Int64} (hd : jd cc pc .lsub 1 pc')  (k : J V E fin o pc' L (.long (x - y) :: st) X) : J V E fin o pc L (.long y :: .long x :: st) X := by
  obtain ⟨p, l, e, R, s, m, args, below, meth, c, nL, A, cn, sn, Q, res⟩ := E
  obtain ⟨hx, hb, ⟨hml, hnL⟩, hown, hts, hR, hK, hA, hSt, hq⟩ := hE
  obtain ⟨hd, rfl⟩ := hd
  intro ho H locs ls hP hD hS hl
  exact lv_lsub hx hb hd (k ho H locs ls hP hD hS hl)
theorem J_lmul (hE : JOk V E cc own n d ret enc) {x y : Int64} (hd : jd cc pc .lmul 1 pc')  (k : J V E fin o pc' L (.long (x * y) :: st) X) : J V E fin o pc L (.long y :: .long x :: st) X := by
  obtain ⟨p, l, e, R, s, m, args, below, meth, c, nL, A, cn, sn, Q, res⟩ := E
  obtain ⟨hx, hb, ⟨hml, hnL⟩, hown, hts, hR, hK, hA, hSt, hq⟩ := hE
  obtain ⟨hd, rfl⟩ := hd
  intro ho H locs ls hP hD hS hl
  exact lv_lmul hx hb hd (k ho H locs ls hP hD hS hl)
theorem J_i2l (hE : JOk V E cc own n d ret enc) {x : Int32} (hd : jd cc pc .i2l 1 pc')  (k : J V E fin o pc' L (.long x.toInt64 :: st) X) : J V E fin o pc L (.int x :: st) X := by
  obtain ⟨p, l, e, R, s, m, args, below, meth, c, nL, A, cn, sn, Q, res⟩ := E
  obtain ⟨hx, hb, ⟨hml, hnL⟩, hown, hts, hR, hK, hA, hSt, hq⟩ := hE
  obtain ⟨hd, rfl⟩ := hd
  intro ho H locs ls hP hD hS hl
  exact lv_i2l hx hb hd rfl (k ho H locs ls hP hD hS hl)
theorem J_i2b (hE : JOk V E cc own n d ret enc) {x : Int32} (hd : jd cc pc .i2b 1 pc')  (k : J V E fin o pc' L (.int x.toInt8.toInt32 :: st) X) : J V E fin o pc L (.int x :: st) X := by
  obtain ⟨p, l, e, R, s, m, args, below, meth, c, nL, A, cn, sn, Q, res⟩ := E
  obtain ⟨hx, hb, ⟨hml, hnL⟩, hown, hts, hR, hK, hA, hSt, hq⟩ := hE
  obtain ⟨hd, rfl⟩ := hd
  intro ho H locs ls hP hD hS hl
  exact lv_i2b hx hb hd rfl (k ho H locs ls hP hD hS hl)
theorem J_i2s (hE : JOk V E cc own n d ret enc) {x : Int32} (hd : jd cc pc .i2s 1 pc')  (k : J V E fin o pc' L (.int x.toInt16.toInt32 :: st) X) : J V E fin o pc L (.int x :: st) X := by
  obtain ⟨p, l, e, R, s, m, args, below, meth, c, nL, A, cn, sn, Q, res⟩ := E
  obtain ⟨hx, hb, ⟨hml, hnL⟩, hown, hts, hR, hK, hA, hSt, hq⟩ := hE
  obtain ⟨hd, rfl⟩ := hd
  intro ho H locs ls hP hD hS hl
  exact lv_i2s hx hb hd rfl (k ho H locs ls hP hD hS hl)
theorem J_lcmp (hE : JOk V E cc own n d ret enc) {x y : Int64} (hd : jd cc pc .lcmp 1 pc')  (k : J V E fin o pc' L (.int (lg_cmp x y) :: st) X) : J V E fin o pc L (.long y :: .long x :: st) X := by
  obtain ⟨p, l, e, R, s, m, args, below, meth, c, nL, A, cn, sn, Q, res⟩ := E
  obtain ⟨hx, hb, ⟨hml, hnL⟩, hown, hts, hR, hK, hA, hSt, hq⟩ := hE
  obtain ⟨hd, rfl⟩ := hd
  intro ho H locs ls hP hD hS hl
  exact W.lcmp hx hb hd (k ho H locs ls hP hD hS hl)
theorem J_dup (hE : JOk V E cc own n d ret enc) {v : Value} (hd : jd cc pc .dup 1 pc') (hc : v.category = 1) (k : J V E fin o pc' L (v :: v :: st) X) : J V E fin o pc L (v :: st) X := by
  obtain ⟨p, l, e, R, s, m, args, below, meth, c, nL, A, cn, sn, Q, res⟩ := E
  obtain ⟨hx, hb, ⟨hml, hnL⟩, hown, hts, hR, hK, hA, hSt, hq⟩ := hE
  obtain ⟨hd, rfl⟩ := hd
  intro ho H locs ls hP hD hS hl
  exact lv_dup hx hb hd hc (k ho H locs ls hP hD hS hl)
theorem J_dup2 (hE : JOk V E cc own n d ret enc) {v w : Value} (hd : jd cc pc .dup2 1 pc') (hc : v.category = 1) (hc2 : w.category = 1) (k : J V E fin o pc' L (v :: w :: v :: w :: st) X) : J V E fin o pc L (v :: w :: st) X := by
  obtain ⟨p, l, e, R, s, m, args, below, meth, c, nL, A, cn, sn, Q, res⟩ := E
  obtain ⟨hx, hb, ⟨hml, hnL⟩, hown, hts, hR, hK, hA, hSt, hq⟩ := hE
  obtain ⟨hd, rfl⟩ := hd
  intro ho H locs ls hP hD hS hl
  exact lv_dup2_11 hx hb hd hc hc2 (k ho H locs ls hP hD hS hl)
theorem J_dup_x1 (hE : JOk V E cc own n d ret enc) {v w : Value} (hd : jd cc pc .dup_x1 1 pc') (hc : v.category = 1) (hc2 : w.category = 1) (k : J V E fin o pc' L (v :: w :: v :: st) X) : J V E fin o pc L (v :: w :: st) X := by
  obtain ⟨p, l, e, R, s, m, args, below, meth, c, nL, A, cn, sn, Q, res⟩ := E
  obtain ⟨hx, hb, ⟨hml, hnL⟩, hown, hts, hR, hK, hA, hSt, hq⟩ := hE
  obtain ⟨hd, rfl⟩ := hd
  intro ho H locs ls hP hD hS hl
  exact lv_dup_x1 hx hb hd hc hc2 (k ho H locs ls hP hD hS hl)
theorem J_pop (hE : JOk V E cc own n d ret enc) {v : Value} (hd : jd cc pc .pop 1 pc') (hc : v.category = 1) (k : J V E fin o pc' L (st) X) : J V E fin o pc L (v :: st) X := by
  obtain ⟨p, l, e, R, s, m, args, below, meth, c, nL, A, cn, sn, Q, res⟩ := E
  obtain ⟨hx, hb, ⟨hml, hnL⟩, hown, hts, hR, hK, hA, hSt, hq⟩ := hE
  obtain ⟨hd, rfl⟩ := hd
  intro ho H locs ls hP hD hS hl
  exact lv_pop hx hb hd hc (k ho H locs ls hP hD hS hl)
theorem J_idiv (hE : JOk V E cc own n d ret enc) {x y : Int32} (hd : jd cc pc .idiv 1 pc') (k : ¬ y = 0 → J V E fin o pc' L (.int (x / y) :: st) X) : J V E fin (if y = 0 then none else o) pc L (.int y :: .int x :: st) X := by
  obtain ⟨p, l, e, R, s, m, args, below, meth, c, nL, A, cn, sn, Q, res⟩ := E
  obtain ⟨hx, hb, ⟨hml, hnL⟩, hown, hts, hR, hK, hA, hSt, hq⟩ := hE
  obtain ⟨hd, rfl⟩ := hd
  intro ho H locs ls hP hD hS hl
  by_cases h : y = 0
  · rw [if_pos h] at ho
    exact absurd ho (by simp)
  · rw [if_neg h] at ho
    exact lv_idiv hx hb hd h (k h ho H locs ls hP hD hS hl)
theorem J_irem (hE : JOk V E cc own n d ret enc) {x y : Int32} (hd : jd cc pc .irem 1 pc') (k : ¬ y = 0 → J V E fin o pc' L (.int (x - x / y * y) :: st) X) : J V E fin (if y = 0 then none else o) pc L (.int y :: .int x :: st) X := by
  obtain ⟨p, l, e, R, s, m, args, below, meth, c, nL, A, cn, sn, Q, res⟩ := E
  obtain ⟨hx, hb, ⟨hml, hnL⟩, hown, hts, hR, hK, hA, hSt, hq⟩ := hE
  obtain ⟨hd, rfl⟩ := hd
  intro ho H locs ls hP hD hS hl
  by_cases h : y = 0
  · rw [if_pos h] at ho
    exact absurd ho (by simp)
  · rw [if_neg h] at ho
    exact lv_irem hx hb hd h (k h ho H locs ls hP hD hS hl)
theorem J_ldiv (hE : JOk V E cc own n d ret enc) {x y : Int64} (hd : jd cc pc .ldiv 1 pc') (k : ¬ y = 0 → J V E fin o pc' L (.long (x / y) :: st) X) : J V E fin (if y = 0 then none else o) pc L (.long y :: .long x :: st) X := by
  obtain ⟨p, l, e, R, s, m, args, below, meth, c, nL, A, cn, sn, Q, res⟩ := E
  obtain ⟨hx, hb, ⟨hml, hnL⟩, hown, hts, hR, hK, hA, hSt, hq⟩ := hE
  obtain ⟨hd, rfl⟩ := hd
  intro ho H locs ls hP hD hS hl
  by_cases h : y = 0
  · rw [if_pos h] at ho
    exact absurd ho (by simp)
  · rw [if_neg h] at ho
    exact lv_ldiv hx hb hd h (k h ho H locs ls hP hD hS hl)
theorem J_lrem (hE : JOk V E cc own n d ret enc) {x y : Int64} (hd : jd cc pc .lrem 1 pc') (k : ¬ y = 0 → J V E fin o pc' L (.long (x - x / y * y) :: st) X) : J V E fin (if y = 0 then none else o) pc L (.long y :: .long x :: st) X := by
  obtain ⟨p, l, e, R, s, m, args, below, meth, c, nL, A, cn, sn, Q, res⟩ := E
  obtain ⟨hx, hb, ⟨hml, hnL⟩, hown, hts, hR, hK, hA, hSt, hq⟩ := hE
  obtain ⟨hd, rfl⟩ := hd
  intro ho H locs ls hP hD hS hl
  by_cases h : y = 0
  · rw [if_pos h] at ho
    exact absurd ho (by simp)
  · rw [if_neg h] at ho
    exact lv_lrem hx hb hd h (k h ho H locs ls hP hD hS hl)
theorem J_icmp_eq (hE : JOk V E cc own n d ret enc) {x y : Int32} {z : Int} {tgt : Nat} {ot of : Option α} (hd : jd cc pc (.if_icmp .eq z) 3 pc') (ht : (pc : Int) + z = (tgt : Int)) (kt : x = y → J V E fin ot tgt L st X) (kf : ¬ (x = y) → J V E fin of pc' L st X) : J V E fin (if x = y then ot else of) pc L (.int y :: .int x :: st) X := by
  obtain ⟨p, l, e, R, s, m, args, below, meth, c, nL, A, cn, sn, Q, res⟩ := E
  obtain ⟨hx, hb, ⟨hml, hnL⟩, hown, hts, hR, hK, hA, hSt, hq⟩ := hE
  obtain ⟨hd, rfl⟩ := hd
  intro ho H locs ls hP hD hS hl
  exact lv_icmp_eq hx hb hd ht (fun q => kt q (by rw [if_pos q] at ho; exact ho) H locs ls hP hD hS hl) (fun q => kf q (by rw [if_neg q] at ho; exact ho) H locs ls hP hD hS hl)
theorem J_if_eq (hE : JOk V E cc own n d ret enc) {x : Int32} {z : Int} {tgt : Nat} {ot of : Option α} (hd : jd cc pc (.ifCond .eq z) 3 pc') (ht : (pc : Int) + z = (tgt : Int)) (kt : x = 0 → J V E fin ot tgt L st X) (kf : ¬ (x = 0) → J V E fin of pc' L st X) : J V E fin (if x = 0 then ot else of) pc L (.int x :: st) X := by
  obtain ⟨p, l, e, R, s, m, args, below, meth, c, nL, A, cn, sn, Q, res⟩ := E
  obtain ⟨hx, hb, ⟨hml, hnL⟩, hown, hts, hR, hK, hA, hSt, hq⟩ := hE
  obtain ⟨hd, rfl⟩ := hd
  intro ho H locs ls hP hD hS hl
  exact lv_if_eq hx hb hd ht (fun q => kt q (by rw [if_pos q] at ho; exact ho) H locs ls hP hD hS hl) (fun q => kf q (by rw [if_neg q] at ho; exact ho) H locs ls hP hD hS hl)
theorem J_icmp_ne (hE : JOk V E cc own n d ret enc) {x y : Int32} {z : Int} {tgt : Nat} {ot of : Option α} (hd : jd cc pc (.if_icmp .ne z) 3 pc') (ht : (pc : Int) + z = (tgt : Int)) (kt : ¬ x = y → J V E fin ot tgt L st X) (kf : x = y → J V E fin of pc' L st X) : J V E fin (if x = y then of else ot) pc L (.int y :: .int x :: st) X := by
  obtain ⟨p, l, e, R, s, m, args, below, meth, c, nL, A, cn, sn, Q, res⟩ := E
  obtain ⟨hx, hb, ⟨hml, hnL⟩, hown, hts, hR, hK, hA, hSt, hq⟩ := hE
  obtain ⟨hd, rfl⟩ := hd
  intro ho H locs ls hP hD hS hl
  exact lv_icmp_ne hx hb hd ht (fun q => kt q (by rw [if_neg q] at ho; exact ho) H locs ls hP hD hS hl) (fun q => kf q (by rw [if_pos q] at ho; exact ho) H locs ls hP hD hS hl)
theorem J_if_ne (hE : JOk V E cc own n d ret enc) {x : Int32} {z : Int} {tgt : Nat} {ot of : Option α} (hd : jd cc pc (.ifCond .ne z) 3 pc') (ht : (pc : Int) + z = (tgt : Int)) (kt : ¬ x = 0 → J V E fin ot tgt L st X) (kf : x = 0 → J V E fin of pc' L st X) : J V E fin (if x = 0 then of else ot) pc L (.int x :: st) X := by
  obtain ⟨p, l, e, R, s, m, args, below, meth, c, nL, A, cn, sn, Q, res⟩ := E
  obtain ⟨hx, hb, ⟨hml, hnL⟩, hown, hts, hR, hK, hA, hSt, hq⟩ := hE
  obtain ⟨hd, rfl⟩ := hd
  intro ho H locs ls hP hD hS hl
  exact lv_if_ne hx hb hd ht (fun q => kt q (by rw [if_neg q] at ho; exact ho) H locs ls hP hD hS hl) (fun q => kf q (by rw [if_pos q] at ho; exact ho) H locs ls hP hD hS hl)
theorem J_icmp_lt (hE : JOk V E cc own n d ret enc) {x y : Int32} {z : Int} {tgt : Nat} {ot of : Option α} (hd : jd cc pc (.if_icmp .lt z) 3 pc') (ht : (pc : Int) + z = (tgt : Int)) (kt : x < y → J V E fin ot tgt L st X) (kf : ¬ (x < y) → J V E fin of pc' L st X) : J V E fin (if x < y then ot else of) pc L (.int y :: .int x :: st) X := by
  obtain ⟨p, l, e, R, s, m, args, below, meth, c, nL, A, cn, sn, Q, res⟩ := E
  obtain ⟨hx, hb, ⟨hml, hnL⟩, hown, hts, hR, hK, hA, hSt, hq⟩ := hE
  obtain ⟨hd, rfl⟩ := hd
  intro ho H locs ls hP hD hS hl
  exact lv_icmp_lt hx hb hd ht (fun q => kt q (by rw [if_pos q] at ho; exact ho) H locs ls hP hD hS hl) (fun q => kf q (by rw [if_neg q] at ho; exact ho) H locs ls hP hD hS hl)
theorem J_if_lt (hE : JOk V E cc own n d ret enc) {x : Int32} {z : Int} {tgt : Nat} {ot of : Option α} (hd : jd cc pc (.ifCond .lt z) 3 pc') (ht : (pc : Int) + z = (tgt : Int)) (kt : x < 0 → J V E fin ot tgt L st X) (kf : ¬ (x < 0) → J V E fin of pc' L st X) : J V E fin (if x < 0 then ot else of) pc L (.int x :: st) X := by
  obtain ⟨p, l, e, R, s, m, args, below, meth, c, nL, A, cn, sn, Q, res⟩ := E
  obtain ⟨hx, hb, ⟨hml, hnL⟩, hown, hts, hR, hK, hA, hSt, hq⟩ := hE
  obtain ⟨hd, rfl⟩ := hd
  intro ho H locs ls hP hD hS hl
  exact lv_if_lt hx hb hd ht (fun q => kt q (by rw [if_pos q] at ho; exact ho) H locs ls hP hD hS hl) (fun q => kf q (by rw [if_neg q] at ho; exact ho) H locs ls hP hD hS hl)
theorem J_icmp_ge (hE : JOk V E cc own n d ret enc) {x y : Int32} {z : Int} {tgt : Nat} {ot of : Option α} (hd : jd cc pc (.if_icmp .ge z) 3 pc') (ht : (pc : Int) + z = (tgt : Int)) (kt : y ≤ x → J V E fin ot tgt L st X) (kf : ¬ (y ≤ x) → J V E fin of pc' L st X) : J V E fin (if y ≤ x then ot else of) pc L (.int y :: .int x :: st) X := by
  obtain ⟨p, l, e, R, s, m, args, below, meth, c, nL, A, cn, sn, Q, res⟩ := E
  obtain ⟨hx, hb, ⟨hml, hnL⟩, hown, hts, hR, hK, hA, hSt, hq⟩ := hE
  obtain ⟨hd, rfl⟩ := hd
  intro ho H locs ls hP hD hS hl
  exact lv_icmp_ge hx hb hd ht (fun q => kt q (by rw [if_pos q] at ho; exact ho) H locs ls hP hD hS hl) (fun q => kf q (by rw [if_neg q] at ho; exact ho) H locs ls hP hD hS hl)
theorem J_if_ge (hE : JOk V E cc own n d ret enc) {x : Int32} {z : Int} {tgt : Nat} {ot of : Option α} (hd : jd cc pc (.ifCond .ge z) 3 pc') (ht : (pc : Int) + z = (tgt : Int)) (kt : 0 ≤ x → J V E fin ot tgt L st X) (kf : ¬ (0 ≤ x) → J V E fin of pc' L st X) : J V E fin (if 0 ≤ x then ot else of) pc L (.int x :: st) X := by
  obtain ⟨p, l, e, R, s, m, args, below, meth, c, nL, A, cn, sn, Q, res⟩ := E
  obtain ⟨hx, hb, ⟨hml, hnL⟩, hown, hts, hR, hK, hA, hSt, hq⟩ := hE
  obtain ⟨hd, rfl⟩ := hd
  intro ho H locs ls hP hD hS hl
  exact lv_if_ge hx hb hd ht (fun q => kt q (by rw [if_pos q] at ho; exact ho) H locs ls hP hD hS hl) (fun q => kf q (by rw [if_neg q] at ho; exact ho) H locs ls hP hD hS hl)
theorem J_icmp_gt (hE : JOk V E cc own n d ret enc) {x y : Int32} {z : Int} {tgt : Nat} {ot of : Option α} (hd : jd cc pc (.if_icmp .gt z) 3 pc') (ht : (pc : Int) + z = (tgt : Int)) (kt : y < x → J V E fin ot tgt L st X) (kf : ¬ (y < x) → J V E fin of pc' L st X) : J V E fin (if y < x then ot else of) pc L (.int y :: .int x :: st) X := by
  obtain ⟨p, l, e, R, s, m, args, below, meth, c, nL, A, cn, sn, Q, res⟩ := E
  obtain ⟨hx, hb, ⟨hml, hnL⟩, hown, hts, hR, hK, hA, hSt, hq⟩ := hE
  obtain ⟨hd, rfl⟩ := hd
  intro ho H locs ls hP hD hS hl
  exact lv_icmp_gt hx hb hd ht (fun q => kt q (by rw [if_pos q] at ho; exact ho) H locs ls hP hD hS hl) (fun q => kf q (by rw [if_neg q] at ho; exact ho) H locs ls hP hD hS hl)
theorem J_if_gt (hE : JOk V E cc own n d ret enc) {x : Int32} {z : Int} {tgt : Nat} {ot of : Option α} (hd : jd cc pc (.ifCond .gt z) 3 pc') (ht : (pc : Int) + z = (tgt : Int)) (kt : 0 < x → J V E fin ot tgt L st X) (kf : ¬ (0 < x) → J V E fin of pc' L st X) : J V E fin (if 0 < x then ot else of) pc L (.int x :: st) X := by
  obtain ⟨p, l, e, R, s, m, args, below, meth, c, nL, A, cn, sn, Q, res⟩ := E
  obtain ⟨hx, hb, ⟨hml, hnL⟩, hown, hts, hR, hK, hA, hSt, hq⟩ := hE
  obtain ⟨hd, rfl⟩ := hd
  intro ho H locs ls hP hD hS hl
  exact lv_if_gt hx hb hd ht (fun q => kt q (by rw [if_pos q] at ho; exact ho) H locs ls hP hD hS hl) (fun q => kf q (by rw [if_neg q] at ho; exact ho) H locs ls hP hD hS hl)
theorem J_icmp_le (hE : JOk V E cc own n d ret enc) {x y : Int32} {z : Int} {tgt : Nat} {ot of : Option α} (hd : jd cc pc (.if_icmp .le z) 3 pc') (ht : (pc : Int) + z = (tgt : Int)) (kt : x ≤ y → J V E fin ot tgt L st X) (kf : ¬ (x ≤ y) → J V E fin of pc' L st X) : J V E fin (if x ≤ y then ot else of) pc L (.int y :: .int x :: st) X := by
  obtain ⟨p, l, e, R, s, m, args, below, meth, c, nL, A, cn, sn, Q, res⟩ := E
  obtain ⟨hx, hb, ⟨hml, hnL⟩, hown, hts, hR, hK, hA, hSt, hq⟩ := hE
  obtain ⟨hd, rfl⟩ := hd
  intro ho H locs ls hP hD hS hl
  exact lv_icmp_le hx hb hd ht (fun q => kt q (by rw [if_pos q] at ho; exact ho) H locs ls hP hD hS hl) (fun q => kf q (by rw [if_neg q] at ho; exact ho) H locs ls hP hD hS hl)
theorem J_if_le (hE : JOk V E cc own n d ret enc) {x : Int32} {z : Int} {tgt : Nat} {ot of : Option α} (hd : jd cc pc (.ifCond .le z) 3 pc') (ht : (pc : Int) + z = (tgt : Int)) (kt : x ≤ 0 → J V E fin ot tgt L st X) (kf : ¬ (x ≤ 0) → J V E fin of pc' L st X) : J V E fin (if x ≤ 0 then ot else of) pc L (.int x :: st) X := by
  obtain ⟨p, l, e, R, s, m, args, below, meth, c, nL, A, cn, sn, Q, res⟩ := E
  obtain ⟨hx, hb, ⟨hml, hnL⟩, hown, hts, hR, hK, hA, hSt, hq⟩ := hE
  obtain ⟨hd, rfl⟩ := hd
  intro ho H locs ls hP hD hS hl
  exact lv_if_le hx hb hd ht (fun q => kt q (by rw [if_pos q] at ho; exact ho) H locs ls hP hD hS hl) (fun q => kf q (by rw [if_neg q] at ho; exact ho) H locs ls hP hD hS hl)
theorem J_goto (hE : JOk V E cc own n d ret enc) {z : Int} {tgt : Nat} (hd : jd cc pc (.goto z) 3 pc') (ht : (pc : Int) + z = (tgt : Int)) (k : J V E fin o tgt L st X) : J V E fin o pc L st X := by
  obtain ⟨p, l, e, R, s, m, args, below, meth, c, nL, A, cn, sn, Q, res⟩ := E
  obtain ⟨hx, hb, ⟨hml, hnL⟩, hown, hts, hR, hK, hA, hSt, hq⟩ := hE
  obtain ⟨hd, rfl⟩ := hd
  intro ho H locs ls hP hD hS hl
  exact lv_goto hx hb hd ht (k ho H locs ls hP hD hS hl)
theorem J_tsIn (hE : JOk V E cc own n d ret enc) {dflt lo hi : Int} {offs : Array Int} {len : Nat} {x : Int32} {off : Int} {tgt : Nat} (hd : jd cc pc (.tableswitch dflt lo hi offs) len pc') (h1 : ¬ x.toInt < lo) (h2 : ¬ hi < x.toInt) (ho : offs[(x.toInt - lo).toNat]? = some off) (ht : (pc : Int) + off = (tgt : Int)) (k : J V E fin o tgt L st X) : J V E fin o pc L (.int x :: st) X := by
  obtain ⟨p, l, e, R, s, m, args, below, meth, c, nL, A, cn, sn, Q, res⟩ := E
  obtain ⟨hx, hb, ⟨hml, hnL⟩, hown, hts, hR, hK, hA, hSt, hq⟩ := hE
  obtain ⟨hd, rfl⟩ := hd
  intro hoo H locs ls hP hD hS hl
  exact lv_tableIn hx hb hd h1 h2 ho ht (k hoo H locs ls hP hD hS hl)
theorem J_tsOut (hE : JOk V E cc own n d ret enc) {dflt lo hi : Int} {offs : Array Int} {len : Nat} {x : Int32} {tgt : Nat} (hd : jd cc pc (.tableswitch dflt lo hi offs) len pc') (h : x.toInt < lo ∨ hi < x.toInt) (ht : (pc : Int) + dflt = (tgt : Int)) (k : J V E fin o tgt L st X) : J V E fin o pc L (.int x :: st) X := by
  obtain ⟨p, l, e, R, s, m, args, below, meth, c, nL, A, cn, sn, Q, res⟩ := E
  obtain ⟨hx, hb, ⟨hml, hnL⟩, hown, hts, hR, hK, hA, hSt, hq⟩ := hE
  obtain ⟨hd, rfl⟩ := hd
  intro hoo H locs ls hP hD hS hl
  exact lv_tableOut hx hb hd h ht (k hoo H locs ls hP hD hS hl)
theorem J_lsw (hE : JOk V E cc own n d ret enc) {dflt : Int} {ps : Array (Int × Int)} {len : Nat} {x : Int32} {off : Int} {tgt : Nat} (hd : jd cc pc (.lookupswitch dflt ps) len pc') (hp : (ps.toList.zip (ps.toList.drop 1)).all (fun (a, next) => a.1 < next.1) = true) (hof : Op.lookupswitch.offset ps.toList dflt x.toInt = off) (ht : (pc : Int) + off = (tgt : Int)) (k : J V E fin o tgt L st X) : J V E fin o pc L (.int x :: st) X := by
  obtain ⟨p, l, e, R, s, m, args, below, meth, c, nL, A, cn, sn, Q, res⟩ := E
  obtain ⟨hx, hb, ⟨hml, hnL⟩, hown, hts, hR, hK, hA, hSt, hq⟩ := hE
  obtain ⟨hd, rfl⟩ := hd
  intro hoo H locs ls hP hD hS hl
  exact lv_lookup hx hb hd hp hof ht (k hoo H locs ls hP hD hS hl)
theorem J_iret (hE : JOk V E cc own n d (some .int) enc) {r : α} {v : Int32} (hd : jd cc pc .ireturn 1 pc') (hr : enc (fin r).1 = some (.int v)) (hX : (fin r).2 = X) : J V E fin (some r) pc L [.int v] X := by
  obtain ⟨p, l, e, R, s, m, args, below, meth, c, nL, A, cn, sn, Q, res⟩ := E
  obtain ⟨hx, hb, ⟨hml, hnL⟩, hown, hts, hR, hK, hA, hSt, hq⟩ := hE
  obtain ⟨hd, rfl⟩ := hd
  intro ho H locs ls hP hD hS hl
  have hr0 : fin r = res := Option.some.inj ho
  subst hr0
  subst hX
  have z := hq .ireturn H locs ls pc hP hD hS (Or.inr (Or.inr ⟨_, v, rfl, hr, rfl, rfl⟩)) hd
  rw [hr] at z
  exact z
theorem J_zret (hE : JOk V E cc own n d (some .boolean) enc) {r : α} {v : Int32} (hz : v = 0 ∨ v = 1) (hd : jd cc pc .ireturn 1 pc') (hr : enc (fin r).1 = some (.int v)) (hX : (fin r).2 = X) : J V E fin (some r) pc L [.int v] X := by
  obtain ⟨p, l, e, R, s, m, args, below, meth, c, nL, A, cn, sn, Q, res⟩ := E
  obtain ⟨hx, hb, ⟨hml, hnL⟩, hown, hts, hR, hK, hA, hSt, hq⟩ := hE
  obtain ⟨hd, rfl⟩ := hd
  intro ho H locs ls hP hD hS hl
  have hr0 : fin r = res := Option.some.inj ho
  subst hr0
  subst hX
  have z := hq .ireturn H locs ls pc hP hD hS (Or.inr (Or.inr ⟨_, v, rfl, hr, by rcases hz with rfl | rfl <;> rfl, rfl⟩)) hd
  rw [hr] at z
  exact z
theorem J_lret (hE : JOk V E cc own n d (some .long) enc) {r : α} {v : Int64} (hd : jd cc pc .lreturn 1 pc') (hr : enc (fin r).1 = some (.long v)) (hX : (fin r).2 = X) : J V E fin (some r) pc L [.long v] X := by
  obtain ⟨p, l, e, R, s, m, args, below, meth, c, nL, A, cn, sn, Q, res⟩ := E
  obtain ⟨hx, hb, ⟨hml, hnL⟩, hown, hts, hR, hK, hA, hSt, hq⟩ := hE
  obtain ⟨hd, rfl⟩ := hd
  intro ho H locs ls hP hD hS hl
  have hr0 : fin r = res := Option.some.inj ho
  subst hr0
  subst hX
  have z := hq .lreturn H locs ls pc hP hD hS (Or.inr (Or.inl ⟨v, rfl, hr, rfl⟩)) hd
  rw [hr] at z
  exact z
theorem J_vret (hE : JOk V E cc own n d none enc) {r : α} (hd : jd cc pc .return_ 1 pc') (hr : enc (fin r).1 = none) (hX : (fin r).2 = X) : J V E fin (some r) pc L [] X := by
  obtain ⟨p, l, e, R, s, m, args, below, meth, c, nL, A, cn, sn, Q, res⟩ := E
  obtain ⟨hx, hb, ⟨hml, hnL⟩, hown, hts, hR, hK, hA, hSt, hq⟩ := hE
  obtain ⟨hd, rfl⟩ := hd
  intro ho H locs ls hP hD hS hl
  have hr0 : fin r = res := Option.some.inj ho
  subst hr0
  subst hX
  have z := hq .return_ H locs ls pc hP hD hS (Or.inl ⟨rfl, hr, rfl⟩) hd
  rw [hr] at z
  exact z
theorem J_ite {c : Prop} {dc : Decidable c} {o1 o2 : Option α} (h1 : c → J V E fin o1 pc L st X) (h2 : ¬ c → J V E fin o2 pc L st X) : J V E fin (@ite _ c dc o1 o2) pc L st X := by
  by_cases h : c
  · rw [if_pos h]; exact h1 h
  · rw [if_neg h]; exact h2 h
theorem J_tsAt (hE : JOk V E cc own n d ret enc) {dflt lo hi : Int} {offs : Array Int} {len : Nat} {x v : Int32} {off : Int} {tgt : Nat} (hv : x = v) (hd : jd cc pc (.tableswitch dflt lo hi offs) len pc') (h1 : ¬ v.toInt < lo) (h2 : ¬ hi < v.toInt) (ho : offs[(v.toInt - lo).toNat]? = some off) (ht : (pc : Int) + off = (tgt : Int)) (k : J V E fin o tgt L st X) : J V E fin o pc L (.int x :: st) X := J_tsIn hE hd (by rw [hv]; exact h1) (by rw [hv]; exact h2) (by rw [hv]; exact ho) ht k
theorem J_lsAt (hE : JOk V E cc own n d ret enc) {dflt : Int} {ps : Array (Int × Int)} {len : Nat} {x v : Int32} {off : Int} {tgt : Nat} (hv : x = v) (hd : jd cc pc (.lookupswitch dflt ps) len pc') (hp : (ps.toList.zip (ps.toList.drop 1)).all (fun (a, next) => a.1 < next.1) = true) (hof : Op.lookupswitch.offset ps.toList dflt v.toInt = off) (ht : (pc : Int) + off = (tgt : Int)) (k : J V E fin o tgt L st X) : J V E fin o pc L (.int x :: st) X := J_lsw hE hd hp (by rw [hv]; exact hof) ht k
/-- a name for a value or a state: the pure program names it too -/
theorem J_letS {f : σ → Option α} {e : σ} (k : ∀ x, J V E fin (f x) pc L st x) : J V E fin (lt e f) pc L st e := k e
theorem J_leti {f : Int32 → Option α} {e : Int32} (k : ∀ x, J V E fin (f x) pc L (.int x :: st) X) : J V E fin (lt e f) pc L (.int e :: st) X := k e
theorem J_letl {f : Int64 → Option α} {e : Int64} (k : ∀ x, J V E fin (f x) pc L (.long x :: st) X) : J V E fin (lt e f) pc L (.long e :: st) X := k e
theorem J_iincL (hE : JOk V E cc own n d ret enc) {i j : Nat} {z : Int} {x v : Int32} {Lf : Int32 → List (Nat × Value)} {f : Int32 → Option α} (hd : jd cc pc (.iinc i z) 3 pc') (hk : L[j]? = some (i, .int x)) (hv : x + Int32.ofInt z = v) (hn : i < n) (hL : ∀ v : Int32, (i, Value.int v) :: L.filter (fun q => !(q.1 == i) && !(q.1 + 1 == i && q.2.category == 2)) = Lf v) (k : ∀ v : Int32, J V E fin (f v) pc' (Lf v) st X) : J V E fin (lt v f) pc L st X := J_iinc hE hd hk hv hn (hL v) (k v)
theorem J_jn {β : Type} {body : (β → Option α) → Option α} {kk : β → Option α} {m : Nat} {Lf : β → List (Nat × Value)} {sf : β → List Value} {Xf : β → σ} (h1 : ∀ v, J V E fin (kk v) m (Lf v) (sf v) (Xf v)) (h2 : (∀ v, J V E fin (kk v) m (Lf v) (sf v) (Xf v)) → J V E fin (body kk) pc L st X) : J V E fin (jn body kk) pc L st X := h2 h1
end JR
end
section
/-! Views: where the pure state lies in the heap; rules for fields, arrays, calls. -/
abbrev M2 : Type := Nat → Nat → Int32
/-- out of bounds: no answer -/
def bnd {α : Type} (i : Int32) (n : Nat) (o : Option α) : Option α := if i < 0 ∨ n ≤ i.toNatClampNeg then none else o
/-- a world seen through a part of the state -/
def jj_sub {σ τ : Type} (V : JV σ) (e : τ → σ) : JV τ := (V.1, V.2.1, V.2.2.1, fun t => V.2.2.2.1 (e t), V.2.2.2.2.1, V.2.2.2.2.2)
def jO {σ : Type} (V : JV σ) (X : σ) (a : Nat) (r : vw_C) (fs : List Value) : Prop := ∃ q ci : Nat, V.2.1[ci]? = some r ∧ (V.2.2.2.1 X)[q]? = some (a, .inr (ci, fs))
def jA {σ : Type} (V : JV σ) (X : σ) (a n : Nat) (ty : FieldType) (f : Nat → Int32) : Prop := ∃ (q t : Nat) (cA : ClassId), V.2.2.1[t]? = some (cA, ty) ∧ (V.2.2.2.1 X)[q]? = some (a, .inl (cA, n, .inl f))
def jQ {σ : Type} (V : JV σ) (X : σ) (a n : Nat) (C : String) (f : Nat → Option Nat) : Prop := ∃ (q t : Nat) (cA : ClassId), V.2.2.1[t]? = some (cA, .object C) ∧ (V.2.2.2.1 X)[q]? = some (a, .inl (cA, n, .inr (.inr (.inr (.inr f)))))
/-- an object and its arrays, at o and a k, hold the part get X; put writes it. sc: its numbers; ar: its arrays, with length and type -/
def vOb {σ : Type} (V : JV σ) (get : σ → M2) (put : σ → M2 → σ) (o : Nat) (a : Nat → Nat) (r : vw_C) (fs : (Nat → Nat) → M2 → List Value) (sc : List Nat) (ar : List (Nat × Nat × FieldType)) : Prop :=
  (∃ q ci : Nat, V.2.1[ci]? = some r ∧ ∀ X : σ, (V.2.2.2.1 X)[q]? = some (o, .inr (ci, fs a (get X))) ∧ ∀ k ∈ sc, ∀ v : Int32, (V.2.2.2.1 X).set q (o, .inr (ci, (fs a (get X)).set k (.int v))) = V.2.2.2.1 (put X (va_up (get X) k (fun _ => v)))) ∧
  ∀ x ∈ ar, ∃ (q t : Nat) (cA : ClassId), V.2.2.1[t]? = some (cA, x.2.2) ∧ ∀ X : σ, (V.2.2.2.1 X)[q]? = some (a x.1, .inl (cA, x.2.1, .inl (get X x.1))) ∧ ∀ f : Nat → Int32, (V.2.2.2.1 X).set q (a x.1, .inl (cA, x.2.1, .inl f)) = V.2.2.2.1 (put X (va_up (get X) x.1 f))
/-- the same, only to be read: it holds N whatever X is -/
def rOb {σ : Type} (V : JV σ) (o : Nat) (a : Nat → Nat) (r : vw_C) (fs : (Nat → Nat) → M2 → List Value) (ar : List (Nat × Nat × FieldType)) (N : M2) : Prop :=
  (∃ q ci : Nat, V.2.1[ci]? = some r ∧ ∀ X : σ, (V.2.2.2.1 X)[q]? = some (o, .inr (ci, fs a N))) ∧
  ∀ x ∈ ar, ∃ (q t : Nat) (cA : ClassId), V.2.2.1[t]? = some (cA, x.2.2) ∧ ∀ X : σ, (V.2.2.2.1 X)[q]? = some (a x.1, .inl (cA, x.2.1, .inl (N x.1)))
theorem jw_native : (Cond.native arraycopyName : Cond) ∈ jj_tb := jj_m (List.mem_of_getElem? (i := 443) (by decide +kernel)) rfl
theorem jw_nstat : (Cond.static arraycopyName : Cond) ∈ jj_tb := jj_m (List.mem_of_getElem? (i := 442) (by decide +kernel)) rfl
theorem jw_nini : (Cond.initialized "java/lang/System" : Cond) ∈ jj_tb := jj_m (List.mem_of_getElem? (i := 74) (by decide +kernel)) rfl
theorem jw_math : (Cond.initialized "java/lang/Math" : Cond) ∈ jj_tb := jj_m (List.mem_of_getElem? (i := 75) (by decide +kernel)) rfl
theorem jw_minS : (Cond.static Lib.Math.min.name : Cond) ∈ jj_tb := jj_m (List.mem_of_getElem? (i := 529) (by decide +kernel)) rfl
theorem jw_maxS : (Cond.static Lib.Math.max.name : Cond) ∈ jj_tb := jj_m (List.mem_of_getElem? (i := 503) (by decide +kernel)) rfl
theorem jw_minC : (Cond.code Lib.Math.min.name Lib.Math.min.code 2 (some .int) : Cond) ∈ jj_tb := jj_m (List.mem_of_getElem? (i := 530) (by decide +kernel)) rfl
theorem jw_maxC : (Cond.code Lib.Math.max.name Lib.Math.max.code 2 (some .int) : Cond) ∈ jj_tb := jj_m (List.mem_of_getElem? (i := 504) (by decide +kernel)) rfl
section VW
variable {σ τ : Type} {V : JV σ} {get : σ → M2} {put : σ → M2 → σ} {o : Nat} {a : Nat → Nat} {r : vw_C} {fs : (Nat → Nat) → M2 → List Value} {sc : List Nat} {ar : List (Nat × Nat × FieldType)} {N : M2}
theorem vOb.ob (h : vOb V get put o a r fs sc ar) (X : σ) : jO V X o r (fs a (get X)) := by
  obtain ⟨⟨q, ci, h1, h2⟩, -⟩ := h
  exact ⟨q, ci, h1, (h2 X).1⟩
theorem vOb.arr (h : vOb V get put o a r fs sc ar) (k : Nat) {n : Nat} {ty : FieldType} (hk : (k, n, ty) ∈ ar) (X : σ) : jA V X (a k) n ty (get X k) := by
  obtain ⟨q, t, cA, h1, h2⟩ := h.2 _ hk
  exact ⟨q, t, cA, h1, (h2 X).1⟩
theorem rOb.ob (h : rOb V o a r fs ar N) (X : σ) : jO V X o r (fs a N) := by
  obtain ⟨⟨q, ci, h1, h2⟩, -⟩ := h
  exact ⟨q, ci, h1, h2 X⟩
theorem rOb.arr (h : rOb V o a r fs ar N) (k : Nat) {n : Nat} {ty : FieldType} (hk : (k, n, ty) ∈ ar) (X : σ) : jA V X (a k) n ty (N k) := by
  obtain ⟨q, t, cA, h1, h2⟩ := h.2 _ hk
  exact ⟨q, t, cA, h1, h2 X⟩
/-- a view through a part of the state -/
theorem vOb.sub {e : τ → σ} {get' : τ → M2} {put' : τ → M2 → τ} (h : vOb V get put o a r fs sc ar) (hg : ∀ t, get (e t) = get' t) (hp : ∀ t S, put (e t) S = e (put' t S)) : vOb (jj_sub V e) get' put' o a r fs sc ar := by
  obtain ⟨⟨q, ci, h1, h2⟩, h3⟩ := h
  refine ⟨⟨q, ci, h1, fun t => ⟨?_, fun k hk v => ?_⟩⟩, fun x hx => ?_⟩
  · rw [← hg t]; exact (h2 (e t)).1
  · have z := (h2 (e t)).2 k hk v
    rw [hp, hg] at z
    exact z
  · obtain ⟨q, t0, cA, g1, g2⟩ := h3 x hx
    refine ⟨q, t0, cA, g1, fun t => ⟨?_, fun f => ?_⟩⟩
    · rw [← hg t]; exact (g2 (e t)).1
    · have z := (g2 (e t)).2 f
      rw [hp, hg] at z
      exact z
theorem vOb.read {e : τ → σ} (h : vOb V get put o a r fs sc ar) (hg : ∀ t, get (e t) = N) : rOb (jj_sub V e) o a r fs ar N := by
  obtain ⟨⟨q, ci, h1, h2⟩, h3⟩ := h
  refine ⟨⟨q, ci, h1, fun t => ?_⟩, fun x hx => ?_⟩
  · rw [← hg t]; exact (h2 (e t)).1
  · obtain ⟨q, t0, cA, g1, g2⟩ := h3 x hx
    exact ⟨q, t0, cA, g1, fun t => by rw [← hg t]; exact (g2 (e t)).1⟩
theorem rOb.sub {e : τ → σ} (h : rOb V o a r fs ar N) : rOb (jj_sub V e) o a r fs ar N := by
  obtain ⟨⟨q, ci, h1, h2⟩, h3⟩ := h
  refine ⟨⟨q, ci, h1, fun t => h2 (e t)⟩, fun x hx => ?_⟩
  obtain ⟨q, t0, cA, g1, g2⟩ := h3 x hx
  exact ⟨q, t0, cA, g1, fun t => g2 (e t)⟩
end VW
/-- a class's words, its fields' types, its names apart -/
def jcl (r : vw_C) (ty : Nat → FieldType) : Prop := (∀ w ∈ u_ws r.1 r.2.1 r.2.2, w ∈ jj_tb) ∧ (∀ k, k < r.2.2 → parseFieldDescriptor (r.2.1 k).2.2.1 = some (ty k)) ∧ ∀ a, a < r.2.2 → ∀ b, b < r.2.2 → a ≠ b → (r.2.1 a).2.1 ≠ (r.2.1 b).2.1
/-- a method's words -/
def jmS (y : MethodName) (cc : ByteArray) (n : Nat) (ret : Option FieldType) (k : Nat) : Prop := Cond.code y cc n ret ∈ jj_tb ∧ Cond.initialized y.cls ∈ jj_tb ∧ (y.cls ≠ "java/lang/invoke/MethodHandle" ∧ y.cls ≠ "java/lang/invoke/VarHandle") ∧ (parseMethodDescriptor y.desc).map (fun d => d.parameters.length) = some k
def jmV (y : MethodName) (cc : ByteArray) (n : Nat) (ret : Option FieldType) (k : Nat) : Prop := jmS y cc n ret k ∧ Cond.instanceMethod y ∈ jj_tb ∧ Cond.selects y.cls y y ∈ jj_tb
def jj_i (r : Int32) : Option Value := some (.int r)
def jj_l (r : Int64) : Option Value := some (.long r)
def jj_v (_ : Unit) : Option Value := none
theorem JC.lift {σ τ ρ : Type} {l : Launch} {V : JV σ} {e : τ → σ} {y : MethodName} {cc : ByteArray} {n : Nat} {ret : Option FieldType} {enc : ρ → Option Value} {d : Nat} {av : List Value} {t : τ} {o : Option (ρ × τ)} (h : JC l (jj_sub V e) y cc n ret enc d av t o) : JC l V y cc n ret enc d av (e t) (o.map (fun q => (q.1, e q.2))) := by
  intro res ho sz
  cases o with
  | none => cases ho
  | some q =>
    cases ho
    exact h q rfl sz
section JV
variable {σ ρ : Type} {V : JV σ} {E : JE σ ρ} {cc : ByteArray} {own : String} {n d : Nat} {ret : Option FieldType} {enc : ρ → Option Value} {α : Type} {fin : α → ρ × σ} {o : Option α} {pc pc' : Nat} {L L' : List (Nat × Value)} {st : List Value} {X : σ}
theorem J_get (hE : JOk V E cc own n d ret enc) {a : Nat} {C : String} {T : u_T} {N ix : Nat} {ty : Nat → FieldType} {fs : List Value} {v : Value} (hO : jO V X a (C, T, N) fs) (hc : jcl (C, T, N) ty) (k : Nat) (hk : k < N) (hl : Cond.fieldLink own ix (T k).1 (T k).2.1 (T k).2.2.1 ∈ jj_tb) (hv : fs[k]? = some v) (hd : jd cc pc (.getfield ix) 3 pc') (kk : J V E fin o pc' L (v :: st) X) : J V E fin o pc L (.ref a :: st) X := by
  obtain ⟨p, l, e, R, s, m, args, below, meth, c, nL, A, cn, sn, Q, res⟩ := E
  obtain ⟨hx, hb, ⟨hml, hnL⟩, hown, hts, hR, hK, hA, hSt, hq⟩ := hE
  obtain ⟨hd, rfl⟩ := hd
  obtain ⟨q0, ci, h1, h2⟩ := hO
  intro ho H locs ls hP hD hS hl'
  exact va_get hx hb hts hc.1 hown hK hP q0 h2 h1 k hk (hts _ hl) (fun _ h => h) hv hd (kk ho H locs ls hP hD hS hl')
theorem J_put (hE : JOk V E cc own n d ret enc) {get : σ → M2} {put : σ → M2 → σ} {b : Nat} {a : Nat → Nat} {C : String} {T : u_T} {N ix : Nat} {fs : (Nat → Nat) → M2 → List Value} {sc : List Nat} {ar : List (Nat × Nat × FieldType)} {ty : Nat → FieldType} {v : Int32} (hO : vOb V get put b a (C, T, N) fs sc ar) (hc : jcl (C, T, N) ty) (k : Nat) (hk : k < N) (hs : k ∈ sc) (hl : Cond.fieldLink own ix (T k).1 (T k).2.1 (T k).2.2.1 ∈ jj_tb) (hfin : (T k).2.2.2 = false) (hn : narrow (ty k) (.int v) = .int v) (hfit : fits (ty k) (.int v) = true) (hlen : k < (fs a (get X)).length) (hd : jd cc pc (.putfield ix) 3 pc') (kk : J V E fin o pc' L st (put X (va_up (get X) k (fun _ => v)))) : J V E fin o pc L (.int v :: .ref b :: st) X := by
  obtain ⟨p, l, e, R, s, m, args, below, meth, c, nL, A, cn, sn, Q, res⟩ := E
  obtain ⟨hx, hb, ⟨hml, hnL⟩, hown, hts, hR, hK, hA, hSt, hq⟩ := hE
  obtain ⟨hd, rfl⟩ := hd
  obtain ⟨⟨q0, ci, h1, h2⟩, -⟩ := hO
  intro ho H locs ls hP hD hS hl'
  refine va_put hx hb hts hc.1 ty hc.2.1 hc.2.2 hown hK hP hD hS q0 (h2 X).1 h1 k hk (hts _ hl) (fun _ h => h) hfin (hc.2.1 k hk) hn hfit hlen hd (fun H1 locs1 hP1 hD1 hS1 => ?_)
  rw [(h2 X).2 k hs v] at hP1 hD1
  exact kk ho H1 locs1 ls hP1 hD1 hS1 hl'
theorem J_ald (hE : JOk V E cc own n d ret enc) {a N : Nat} {f : Nat → Int32} {i : Int32} (hAr : jA V X a N .int f) (hd : jd cc pc .iaload 1 pc') (kk : J V E fin o pc' L (.int (f i.toNatClampNeg) :: st) X) : J V E fin (bnd i N o) pc L (.int i :: .ref a :: st) X := by
  obtain ⟨p, l, e, R, s, m, args, below, meth, c, nL, A, cn, sn, Q, res⟩ := E
  obtain ⟨hx, hb, ⟨hml, hnL⟩, hown, hts, hR, hK, hA, hSt, hq⟩ := hE
  obtain ⟨hd, rfl⟩ := hd
  obtain ⟨q0, t, cA, h1, h2⟩ := hAr
  intro ho H locs ls hP hD hS hl'
  unfold bnd at ho
  by_cases h : i < 0 ∨ N ≤ i.toNatClampNeg
  · rw [if_pos h] at ho; exact absurd ho (by simp)
  · rw [if_neg h] at ho
    exact va_iald hx hb hK hP q0 t h2 h1 h hd (kk ho H locs ls hP hD hS hl')
theorem J_zald (hE : JOk V E cc own n d ret enc) {a N : Nat} {f : Nat → Int32} {i : Int32} (hAr : jA V X a N .boolean f) (hd : jd cc pc .baload 1 pc') (kk : J V E fin o pc' L (.int (f i.toNatClampNeg) :: st) X) : J V E fin (bnd i N o) pc L (.int i :: .ref a :: st) X := by
  obtain ⟨p, l, e, R, s, m, args, below, meth, c, nL, A, cn, sn, Q, res⟩ := E
  obtain ⟨hx, hb, ⟨hml, hnL⟩, hown, hts, hR, hK, hA, hSt, hq⟩ := hE
  obtain ⟨hd, rfl⟩ := hd
  obtain ⟨q0, t, cA, h1, h2⟩ := hAr
  intro ho H locs ls hP hD hS hl'
  unfold bnd at ho
  by_cases h : i < 0 ∨ N ≤ i.toNatClampNeg
  · rw [if_pos h] at ho; exact absurd ho (by simp)
  · rw [if_neg h] at ho
    exact va_zald hx hb hK hP q0 t h2 h1 h hd (kk ho H locs ls hP hD hS hl')
theorem J_qld (hE : JOk V E cc own n d ret enc) {a N : Nat} {C : String} {f : Nat → Option Nat} {i : Int32} (hAr : jQ V X a N C f) (hd : jd cc pc .aaload 1 pc') (kk : ¬ (i < 0 ∨ N ≤ i.toNatClampNeg) → J V E fin o pc' L (va_rf (f i.toNatClampNeg) :: st) X) : J V E fin (bnd i N o) pc L (.int i :: .ref a :: st) X := by
  obtain ⟨p, l, e, R, s, m, args, below, meth, c, nL, A, cn, sn, Q, res⟩ := E
  obtain ⟨hx, hb, ⟨hml, hnL⟩, hown, hts, hR, hK, hA, hSt, hq⟩ := hE
  obtain ⟨hd, rfl⟩ := hd
  obtain ⟨q0, t, cA, h1, h2⟩ := hAr
  intro ho H locs ls hP hD hS hl'
  unfold bnd at ho
  by_cases h : i < 0 ∨ N ≤ i.toNatClampNeg
  · rw [if_pos h] at ho; exact absurd ho (by simp)
  · rw [if_neg h] at ho
    exact va_aldq hx hb hK hP q0 t h2 h1 h hd (kk h ho H locs ls hP hD hS hl')
theorem J_ast (hE : JOk V E cc own n d ret enc) {get : σ → M2} {put : σ → M2 → σ} {b : Nat} {a : Nat → Nat} {r : vw_C} {fs : (Nat → Nat) → M2 → List Value} {sc : List Nat} {ar : List (Nat × Nat × FieldType)} {N : Nat} {i v : Int32} (hO : vOb V get put b a r fs sc ar) (k : Nat) (hk : (k, N, .int) ∈ ar) (hd : jd cc pc .iastore 1 pc') (kk : J V E fin o pc' L st (put X (va_up (get X) k (upd (get X k) i.toNatClampNeg v)))) : J V E fin (bnd i N o) pc L (.int v :: .int i :: .ref (a k) :: st) X := by
  obtain ⟨p, l, e, R, s, m, args, below, meth, c, nL, A, cn, sn, Q, res⟩ := E
  obtain ⟨hx, hb, ⟨hml, hnL⟩, hown, hts, hR, hK, hA, hSt, hq⟩ := hE
  obtain ⟨hd, rfl⟩ := hd
  obtain ⟨q0, t, cA, h1, h2⟩ := hO.2 _ hk
  intro ho H locs ls hP hD hS hl'
  unfold bnd at ho
  by_cases h : i < 0 ∨ N ≤ i.toNatClampNeg
  · rw [if_pos h] at ho; exact absurd ho (by simp)
  · rw [if_neg h] at ho
    refine va_iast hx hb hK hP hD hS q0 t (h2 X).1 h1 h hd (fun H1 locs1 hP1 hD1 hS1 => ?_)
    rw [(h2 X).2] at hP1 hD1
    exact kk ho H1 locs1 ls hP1 hD1 hS1 hl'
theorem J_zast (hE : JOk V E cc own n d ret enc) {get : σ → M2} {put : σ → M2 → σ} {b : Nat} {a : Nat → Nat} {r : vw_C} {fs : (Nat → Nat) → M2 → List Value} {sc : List Nat} {ar : List (Nat × Nat × FieldType)} {N : Nat} {i v : Int32} (hO : vOb V get put b a r fs sc ar) (k : Nat) (hk : (k, N, .boolean) ∈ ar) (hz : vp_nar .boolean v = v) (hd : jd cc pc .bastore 1 pc') (kk : J V E fin o pc' L st (put X (va_up (get X) k (upd (get X k) i.toNatClampNeg v)))) : J V E fin (bnd i N o) pc L (.int v :: .int i :: .ref (a k) :: st) X := by
  obtain ⟨p, l, e, R, s, m, args, below, meth, c, nL, A, cn, sn, Q, res⟩ := E
  obtain ⟨hx, hb, ⟨hml, hnL⟩, hown, hts, hR, hK, hA, hSt, hq⟩ := hE
  obtain ⟨hd, rfl⟩ := hd
  obtain ⟨q0, t, cA, h1, h2⟩ := hO.2 _ hk
  intro ho H locs ls hP hD hS hl'
  unfold bnd at ho
  by_cases h : i < 0 ∨ N ≤ i.toNatClampNeg
  · rw [if_pos h] at ho; exact absurd ho (by simp)
  · rw [if_neg h] at ho
    refine va_zast hx hb hK hP hD hS q0 t (h2 X).1 h1 h hd (fun H1 locs1 hP1 hD1 hS1 => ?_)
    rw [hz, (h2 X).2] at hP1 hD1
    exact kk ho H1 locs1 ls hP1 hD1 hS1 hl'
/-- System.arraycopy from place 0 to place 0 -/
theorem J_copy (hE : JOk V E cc own n d ret enc) {get : σ → M2} {put : σ → M2 → σ} {b a0 ix : Nat} {a : Nat → Nat} {r : vw_C} {fs : (Nat → Nat) → M2 → List Value} {sc : List Nat} {ar : List (Nat × Nat × FieldType)} {N : Nat} {f : Nat → Int32} {z : Int32} (hO : vOb V get put b a r fs sc ar) (k : Nat) (hk : (k, N, .int) ∈ ar) (hAr : jA V X a0 N .int f) (hz : z.toNatClampNeg = N) (hz0 : ¬ z < 0) (hl : Cond.methodLink own ix arraycopyName ∈ jj_tb) (hs : (st.map fun v => v.category).sum + 30 ≤ 60 * d) (hd1 : 1 ≤ d) (hd : jd cc pc (.invokestatic ix) 3 pc') (kk : J V E fin o pc' L st (put X (va_up (get X) k (va_cpy f (get X k) 0 0 N)))) : J V E fin o pc L (.int z :: .int 0 :: .ref (a k) :: .int 0 :: .ref a0 :: st) X := by
  obtain ⟨p, l, e, R, s, m, args, below, meth, c, nL, A, cn, sn, Q, res⟩ := E
  obtain ⟨hx, hb, ⟨hml, hnL⟩, hown, hts, hR, hK, hA, hSt, hq⟩ := hE
  obtain ⟨hd, rfl⟩ := hd
  obtain ⟨q0, t0, c0, g1, g2⟩ := hAr
  obtain ⟨q1, t1, c1, h1, h2⟩ := hO.2 _ hk
  intro ho H locs ls hP hD hS hl'
  refine va_copyi hx hb (by rw [hml, ← hnL]; exact hl'.1.symm) hown (hts _ hl) (hts _ jw_native) (hts _ jw_nstat) (hts _ jw_nini) hK hP hD hS q0 q1 t0 t1 g2 (h2 X).1 g1 h1 rfl (by decide) (by decide) hz0 (by rw [hz]; exact Nat.le_of_eq (Nat.zero_add _)) (by rw [hz]; exact Nat.le_of_eq (Nat.zero_add _)) (fun _ _ => rfl) (Nat.le_trans hd1 hR.1) (Nat.le_trans (Nat.le_trans (Nat.add_le_add_left (by decide +kernel) _) hs) hR.2.1) hd (fun H1 locs1 hP1 hD1 hS1 => ?_)
  rw [hz, (h2 X).2] at hP1 hD1
  exact kk ho H1 locs1 ls hP1 hD1 hS1 hl'
theorem J_min (hE : JOk V E cc own n d ret enc) {ix : Nat} {x y : Int32} (hl : Cond.methodLink own ix Lib.Math.min.name ∈ jj_tb) (hs : (st.map fun v => v.category).sum + 13 ≤ 60 * d) (hd1 : 1 ≤ d) (hd : jd cc pc (.invokestatic ix) 3 pc') (kk : J V E fin o pc' L (.int (if y < x then y else x) :: st) X) : J V E fin o pc L (.int y :: .int x :: st) X := by
  obtain ⟨p, l, e, R, s, m, args, below, meth, c, nL, A, cn, sn, Q, res⟩ := E
  obtain ⟨hx, hb, ⟨hml, hnL⟩, hown, hts, hR, hK, hA, hSt, hq⟩ := hE
  obtain ⟨hd, rfl⟩ := hd
  intro ho H locs ls hP hD hS hl'
  exact va_mmin hx hb (by rw [hml, ← hnL]; exact hl'.1.symm) hown (hts _ hl) (hts _ jw_minS) (hts _ jw_math) (hts _ jw_minC) (Nat.le_trans hd1 hR.1) (Nat.le_trans hs hR.2.1) hR.2.2.1 hR.2.2.2 hd (kk ho H locs ls hP hD hS hl')
theorem J_max (hE : JOk V E cc own n d ret enc) {ix : Nat} {x y : Int32} (hl : Cond.methodLink own ix Lib.Math.max.name ∈ jj_tb) (hs : (st.map fun v => v.category).sum + 13 ≤ 60 * d) (hd1 : 1 ≤ d) (hd : jd cc pc (.invokestatic ix) 3 pc') (kk : J V E fin o pc' L (.int (if x < y then y else x) :: st) X) : J V E fin o pc L (.int y :: .int x :: st) X := by
  obtain ⟨p, l, e, R, s, m, args, below, meth, c, nL, A, cn, sn, Q, res⟩ := E
  obtain ⟨hx, hb, ⟨hml, hnL⟩, hown, hts, hR, hK, hA, hSt, hq⟩ := hE
  obtain ⟨hd, rfl⟩ := hd
  intro ho H locs ls hP hD hS hl'
  exact va_mmax hx hb (by rw [hml, ← hnL]; exact hl'.1.symm) hown (hts _ hl) (hts _ jw_maxS) (hts _ jw_math) (hts _ jw_maxC) (Nat.le_trans hd1 hR.1) (Nat.le_trans hs hR.2.1) hR.2.2.1 hR.2.2.2 hd (kk ho H locs ls hP hD hS hl')
end JV
section CL
variable {σ ρ ρ' α : Type} {fin : α → ρ × σ} {V : JV σ} {E : JE σ ρ} {cc : ByteArray} {own : String} {n d : Nat} {ret : Option FieldType} {enc : ρ → Option Value} {pc pc' : Nat} {L L' : List (Nat × Value)} {st : List Value} {X : σ}
theorem jj_blind {Pq : State → Prop} {av : List Value} (h : ∀ (a : Array Value) (U : State) (g : JFrame) (mk : MethodId), Pq U → Pq (U.calling g mk a)) : FrameBlind (va_Pc av Pq) := fun a U g mk q => ⟨q.1, h a U g mk q.2⟩
theorem jj_St.to {K Z : Nat → Nat} {A B : Nat → Prop} {s U : State} {H : Heap} {locs : List Loc} (h : jj_St K Z A s s.heap) (hS : va_S A s.heap H locs) (hAB : ∀ q, B q → A q) (hW : s.WarmedH U.vm) (hU : U.heap = H) : jj_St K Z B U U.heap := by
  rw [hU]
  exact ⟨((h.1.kept hS.2.1).narrow hAB).moved hW.alike, fun i hi => (h.2.1 i hi).warm hW, fun q hq => (h.2.2.1 q hq).warmM hW, ((h.2.2.2.1.kept hS.2.1).narrow hAB).moved hW.alike, ((h.2.2.2.2.kept hS.2.1).narrow hAB).moved hW.alike⟩
theorem jj_St.calling {K Z : Nat → Nat} {A : Nat → Prop} {U : State} {H : Heap} {g : JFrame} {mk : MethodId} {a : Array Value} (h : jj_St K Z A U H) : jj_St K Z A (U.calling g mk a) H :=
  ⟨h.1.moved (Vm.Alike.refl U.vm), fun i hi => (h.2.1 i hi).same rfl, fun q hq => (h.2.2.1 q hq).same rfl rfl, h.2.2.2.1.moved (Vm.Alike.refl U.vm), h.2.2.2.2.moved (Vm.Alike.refl U.vm)⟩
/-- what a callee's start asks, at a caller's state -/
theorem jj_pre {K Z : Nat → Nat} {D : va_G} {cl : List vw_C} {tys : List (ClassId × FieldType)} {ws : va_W} {A : Nat → Prop} {s : State} {H : Heap} {locs : List Loc} {av : List Value} (hK : va_K D cl tys s) (hSt : jj_St K Z A s s.heap) (hA : ∀ q : Nat, s.heap.size ≤ q → A q) (hP : va_P D cl ws H) (hD : va_D A ws) (hS : va_S A s.heap H locs) :
    PreS s H (va_Pc av (fun U => U.heap.size = H.size ∧ va_P D cl ws U.heap ∧ va_K D cl tys U ∧ va_D (fun _ => True) ws ∧ jj_St K Z (va_A ws H.size) U U.heap)) av := by
  refine ⟨jj_blind (fun a U g mk q => ?_), fun U hU hW => ⟨rfl, by rw [hU], by rw [hU]; exact hP, va_K.moved hW.alike hK, hD.weaken (fun _ _ _ _ => trivial), hSt.to hS (fun q h => ?_) hW hU⟩⟩
  · obtain ⟨q1, q2, q3, q4, q5⟩ := q
    exact ⟨q1, q2, va_K.moved (u := U) (U := U.calling g mk a) (Vm.Alike.refl U.vm) q3, q4, q5.calling⟩
  · rcases h with ⟨k, e, h⟩ | h
    · exact hD.2 k _ h
    · exact hA q (Nat.le_trans hS.1 h)
theorem jj_back {p : Program} {l : Launch} {e : Env} {R : Room} {s : State} {m : MethodId} {args : Array Value} {below : List Frame} {meth : Method} {c : Code} {H : Heap} {locs : List Loc} {Q : State → Prop} {ls : Array Slot} {rest st0 : List Value} {A A1 : Nat → Prop} {v0 : Option Value} {cn sn : Nat} {D : va_G} {cl : List vw_C} {tys : List (ClassId × FieldType)} {ws : va_W} {free : Addr → Prop}
    (hr : va_Run p l e R s m args below meth c H locs cn sn 0 0 (F0 m pc ls st0) rest (fun st oc t => (oc = .returned v0 ∧ va_P D cl ws t.heap ∧ va_K D cl tys t ∧ va_D A1 ws) ∧ va_F A1 st t) free) (hS : va_S A s.heap H locs) (hA : ∀ q, A1 q → A q) (hf : ∀ q, free q → A q)
    (kk : ∀ (H1 : Heap) (locs1 : List Loc), va_P D cl ws H1 → va_D A ws → va_S A s.heap H1 locs1 → W p l e R s m args below meth c H1 locs1 cn sn Q (F0 m (pc + 3) ls (v0.toList ++ rest))) : W p l e R s m args below meth c H locs cn sn Q (F0 m pc ls st0) := by
  intro T hT X
  obtain ⟨v, st₀, t, T', Lc, h0, X', hL, e1, e2, ⟨⟨hv, hp, hk, hd⟩, hz, hkk⟩, stp⟩ := hr T hT X
  cases hv
  rw [h0] at hz hkk
  obtain ⟨t2, a1, b1⟩ := kk T'.heap (locs ++ Lc) (by rw [e1]; exact hp) (hd.weaken (fun _ q _ h => hA q.1 h))
    ⟨Nat.le_trans hS.1 (by rw [e1]; exact hz), fun q h1 h2 => by rw [e1, hkk q (Nat.lt_of_lt_of_le h1 hS.1) (fun z => h2 (hA q z))]; exact hS.2.1 q h1 h2, fun q hq => by
      rcases List.mem_append.mp hq with h | h
      · exact hS.2.2 q h
      · exact hf _ (hL q h)⟩ T' rfl X'
  exact ⟨t2, stp t2 a1, b1⟩
theorem jj_goodV {own : String} {ix : Nat} {y : MethodName} {cc : ByteArray} {n k : Nat} {ret : Option FieldType} (hm : jmV y cc n ret k) (hl : Cond.methodLink own ix y ∈ jj_tb) : GoodIn jj_tb (wsV own ix y.cls y (.code y cc n ret :: jj_tb)) := by
  obtain ⟨⟨m1, m2, -⟩, m3, m4⟩ := hm
  refine jj_g1 (fun w hw => ?_)
  simp only [wsV, List.cons_append, List.nil_append, List.mem_cons] at hw
  rcases hw with rfl | rfl | rfl | rfl | rfl | h
  · exact hl
  · exact m3
  · exact m4
  · exact m2
  · exact m1
  · exact h
theorem jj_goodS {own : String} {ix : Nat} {y : MethodName} {cc : ByteArray} {n k : Nat} {ret : Option FieldType} (hm : jmS y cc n ret k) (hst : Cond.static y ∈ jj_tb) (hl : Cond.methodLink own ix y ∈ jj_tb) : GoodIn jj_tb (va_wsS own ix y (.code y cc n ret :: jj_tb)) := by
  obtain ⟨m1, m2, -⟩ := hm
  refine jj_g1 (fun w hw => ?_)
  simp only [va_wsS, List.cons_append, List.nil_append, List.mem_cons] at hw
  rcases hw with rfl | rfl | rfl | rfl | h
  · exact hl
  · exact hst
  · exact m2
  · exact m1
  · exact h
theorem jj_good0 {y : MethodName} {cc : ByteArray} {n k : Nat} {ret : Option FieldType} (hm : jmS y cc n ret k) : GoodIn jj_tb (.code y cc n ret :: jj_tb) := jj_g1 (fun w hw => by
  rcases List.mem_cons.mp hw with rfl | h
  · exact hm.1
  · exact h)
theorem jj_room {d d' n' : Nat} {R : Room} (h : d' + 1 ≤ d) (h2 : n' ≤ 41) (hR : d ≤ R.frames ∧ 60 * d ≤ R.locals) : (jj_R d').frames + 1 ≤ R.frames ∧ 8 + (n' + 11) + (jj_R d').locals ≤ R.locals := ⟨Nat.le_trans h hR.1, by show 8 + (n' + 11) + 60 * d' ≤ R.locals; have := hR.2; omega⟩
theorem J_invV (hE : JOk V E cc own n d ret enc) {y : MethodName} {cc' : ByteArray} {n' d' k ix b : Nat} {ret' : Option FieldType} {enc' : ρ' → Option Value} {As : List Value} {β : Type} {fin1 : β → ρ' × σ} {o1 : Option β} {K : β → Option α} {T : u_T} {N : Nat} {fs : List Value} {stk : List Value}
    (hC : JC E.2.1 V y cc' n' ret' enc' d' (.ref b :: As) X (o1.map fin1)) (hO : jO V X b (y.cls, T, N) fs) (hm : jmV y cc' n' ret' k) (hk : As.length = k) (hl : Cond.methodLink own ix y ∈ jj_tb) (hdd : d' + 1 ≤ d) (hn' : n' ≤ 41) (hst : stk = As.reverse ++ .ref b :: st) (hcat : (st.map fun v => v.category).sum ≤ 8) (hd : jd cc pc (.invokevirtual ix) 3 pc')
    (kk : ∀ q : β, o1 = some q → J V E fin (K q) pc' L ((enc' (fin1 q).1).toList ++ st) (fin1 q).2) : J V E fin (o1.bind K) pc L stk X := by
  obtain ⟨p, l, e, R, s, m, args, below, meth, c, nL, A, cn, sn, Q, res⟩ := E
  obtain ⟨hx, hb, ⟨hml, hnL⟩, hown, hts, hR, hK, hA, hSt, hq⟩ := hE
  obtain ⟨hd, rfl⟩ := hd
  obtain ⟨q0, ci, g1, g2⟩ := hO
  subst hst
  intro ho H locs ls hP hD hS hl'
  cases hq1 : o1 with
  | none => rw [hq1] at ho; exact absurd ho (by simp)
  | some q =>
    rw [hq1] at ho
    have hpre := jj_pre (av := Value.ref b :: As) hK hSt hA hP hD hS
    have hfr : ∀ x, va_A (V.2.2.2.1 X) H.size x → A x := fun x h => by
      rcases h with ⟨k, e, h⟩ | h
      · exact hD.2 k _ h
      · exact hA x (Nat.le_trans hS.1 h)
    refine jj_back (va_runV (nL := nL) (As := As) (rest := st) ⟨hx, hb, by rw [hml, hnL], hown, hts⟩ (hC (fin1 q) (by rw [hq1]; rfl) H.size) (cwV k hts (jj_goodV hm hl) rfl rfl rfl ⟨rfl, hm.1.2.2.1.1, hm.1.2.2.1.2, hm.1.2.2.2⟩ (jj_room hdd hn' ⟨hR.1, hR.2.1⟩)) ⟨hpre.1, va_recv hK hP g1 g2, hpre.2⟩ rfl hk hl'.1 rfl (lv_room (pc := pc) (ls := ls) (rest := As.reverse ++ .ref b :: st) (m := m) hcat) hd ⟨hR.2.2.1, hR.2.2.2⟩) hS hfr hfr (fun H1 locs1 hP1 hD1 hS1 => ?_)
    exact kk q hq1 ho H1 locs1 ls hP1 hD1 hS1 hl'
theorem J_invS (hE : JOk V E cc own n d ret enc) {y : MethodName} {cc' : ByteArray} {n' d' k ix : Nat} {ret' : Option FieldType} {enc' : ρ' → Option Value} {As : List Value} {β : Type} {fin1 : β → ρ' × σ} {o1 : Option β} {K : β → Option α} {stk : List Value}
    (hC : JC E.2.1 V y cc' n' ret' enc' d' As X (o1.map fin1)) (hm : jmS y cc' n' ret' k) (hsta : Cond.static y ∈ jj_tb) (hk : As.length = k) (hl : Cond.methodLink own ix y ∈ jj_tb) (hdd : d' + 1 ≤ d) (hn' : n' ≤ 41) (hst : stk = As.reverse ++ st) (hcat : (st.map fun v => v.category).sum ≤ 8) (hd : jd cc pc (.invokestatic ix) 3 pc')
    (kk : ∀ q : β, o1 = some q → J V E fin (K q) pc' L ((enc' (fin1 q).1).toList ++ st) (fin1 q).2) : J V E fin (o1.bind K) pc L stk X := by
  obtain ⟨p, l, e, R, s, m, args, below, meth, c, nL, A, cn, sn, Q, res⟩ := E
  obtain ⟨hx, hb, ⟨hml, hnL⟩, hown, hts, hR, hK, hA, hSt, hq⟩ := hE
  obtain ⟨hd, rfl⟩ := hd
  subst hst
  intro ho H locs ls hP hD hS hl'
  cases hq1 : o1 with
  | none => rw [hq1] at ho; exact absurd ho (by simp)
  | some q =>
    rw [hq1] at ho
    have hpre := jj_pre (av := As) hK hSt hA hP hD hS
    have hfr : ∀ x, va_A (V.2.2.2.1 X) H.size x → A x := fun x h => by
      rcases h with ⟨k, e, h⟩ | h
      · exact hD.2 k _ h
      · exact hA x (Nat.le_trans hS.1 h)
    refine jj_back (va_runS (nL := nL) (As := As) (rest := st) ⟨hx, hb, by rw [hml, hnL], hown, hts⟩ (hC (fin1 q) (by rw [hq1]; rfl) H.size) (va_cwS k hts (jj_goodS hm hsta hl) rfl rfl rfl ⟨hm.2.2.1.1, hm.2.2.1.2, hm.2.2.2⟩ (jj_room hdd hn' ⟨hR.1, hR.2.1⟩)) hpre rfl hk hl'.1 rfl (lv_room (pc := pc) (ls := ls) (rest := As.reverse ++ st) (m := m) hcat) hd ⟨hR.2.2.1, hR.2.2.2⟩) hS hfr hfr (fun H1 locs1 hP1 hD1 hS1 => ?_)
    exact kk q hq1 ho H1 locs1 ls hP1 hD1 hS1 hl'
theorem J_invN (hE : JOk V E cc own n d ret enc) {y : MethodName} {host : String} {cc' : ByteArray} {n' d' k ix : Nat} {ret' : Option FieldType} {enc' : ρ' → Option Value} {As : List Value} {β : Type} {fin1 : β → ρ' × σ} {o1 : Option β} {K : β → Option α} {stk : List Value}
    (hC : JC E.2.1 V y cc' n' ret' enc' d' As X (o1.map fin1)) (hm : jmS y cc' n' ret' k) (hsta : Cond.static y ∈ jj_tb) (hk : As.length = k) (hl : (own, ix, y, host) ∈ jj_nest) (hdd : d' + 1 ≤ d) (hn' : n' ≤ 41) (hst : stk = As.reverse ++ st) (hcat : (st.map fun v => v.category).sum ≤ 8) (hd : jd cc pc (.invokestatic ix) 3 pc')
    (kk : ∀ q : β, o1 = some q → J V E fin (K q) pc' L ((enc' (fin1 q).1).toList ++ st) (fin1 q).2) : J V E fin (o1.bind K) pc L stk X := by
  obtain ⟨p, l, e, R, s, m, args, below, meth, c, nL, A, cn, sn, Q, res⟩ := E
  obtain ⟨hx, hb, ⟨hml, hnL⟩, hown, hts, hR, hK, hA, hSt, hq⟩ := hE
  obtain ⟨hd, rfl⟩ := hd
  subst hst
  intro ho H locs ls hP hD hS hl'
  cases hq1 : o1 with
  | none => rw [hq1] at ho; exact absurd ho (by simp)
  | some q =>
    rw [hq1] at ho
    have hpre := jj_pre (av := As) hK hSt hA hP hD hS
    have hfr : ∀ x, va_A (V.2.2.2.1 X) H.size x → A x := fun x h => by
      rcases h with ⟨k, e, h⟩ | h
      · exact hD.2 k _ h
      · exact hA x (Nat.le_trans hS.1 h)
    refine jj_back (va_runSN (nL := nL) (host := host) (As := As) (rest := st) ⟨hx, hb, by rw [hml, hnL], hown, hts⟩ (hC (fin1 q) (by rw [hq1]; rfl) H.size) ⟨va_cnB k hts (jj_good0 hm) rfl rfl rfl (hSt.2.2.1 _ hl) (hts _ hm.2.1) ⟨hm.2.2.1.1, hm.2.2.1.2, hm.2.2.2⟩ (jj_room hdd hn' ⟨hR.1, hR.2.1⟩), hts _ hsta, trivial⟩ hpre rfl hk hl'.1 rfl (lv_room (pc := pc) (ls := ls) (rest := As.reverse ++ st) (m := m) hcat) hd ⟨hR.2.2.1, hR.2.2.2⟩) hS hfr hfr (fun H1 locs1 hP1 hD1 hS1 => ?_)
    exact kk q hq1 ho H1 locs1 ls hP1 hD1 hS1 hl'
end CL
section LF
variable {σ τ ρ ρ' α : Type} {l : Launch} {V : JV σ} {e : τ → σ} {y : MethodName} {cc : ByteArray} {n : Nat} {ret : Option FieldType} {enc : ρ → Option Value} {d : Nat} {av : List Value} {t : τ} {X : σ}
theorem JC.lift_r {o : Option ρ} (h : JC l (jj_sub V e) y cc n ret enc d av t (o.map (fun r => (r, t)))) (he : e t = X) : JC l V y cc n ret enc d av X (o.map (fun r => (r, X))) := by
  subst he
  have z := h.lift
  rw [Option.map_map] at z
  exact z
theorem JC.lift_w {o : Option (ρ × τ)} (h : JC l (jj_sub V e) y cc n ret enc d av t (o.map (fun q => (q.1, q.2)))) (he : e t = X) : JC l V y cc n ret enc d av X (o.map (fun q => (q.1, e q.2))) := by
  subst he
  have z := h.lift
  rw [Option.map_map] at z
  exact z
theorem JC.lift_v {enc : Unit → Option Value} {o : Option τ} (h : JC l (jj_sub V e) y cc n ret enc d av t (o.map (fun q => ((), q)))) (he : e t = X) : JC l V y cc n ret enc d av X (o.map (fun q => ((), e q))) := by
  subst he
  have z := h.lift
  rw [Option.map_map] at z
  exact z
theorem JC_none {α : Type} {fin : α → ρ × σ} : JC l V y cc n ret enc d av X (Option.map fin none) := fun res ho => absurd ho (by simp)
end LF
theorem va_up_up {α : Type} (f : Nat → α) (k : Nat) (v w : α) : va_up (va_up f k v) k w = va_up f k w := by
  funext j
  simp only [va_up]
  split <;> rfl
theorem va_up_eta {α : Type} (f : Nat → α) (k : Nat) : va_up f k (f k) = f := by
  funext j
  simp only [va_up]
  split
  · rename_i h; rw [h]
  · rfl
theorem va_up_comm {α : Type} (f : Nat → α) {j k : Nat} (h : j ≠ k) (v w : α) : va_up (va_up f j v) k w = va_up (va_up f k w) j v := by
  funext i
  simp only [va_up]
  by_cases h1 : i = k
  · subst h1; simp [Ne.symm h]
  · simp [h1]
theorem va_up_eta2 {α : Type} (f : Nat → α) (j k : Nat) : va_up (va_up f j (f j)) k (f k) = f := by rw [va_up_eta, va_up_eta]
def zb {α : Type} (v : Int32) (o : Option α) : Option α := if v = 0 ∨ v = 1 then o else none
section J2
variable {σ ρ α : Type} {fin : α → ρ × σ} {V : JV σ} {E : JE σ ρ} {cc : ByteArray} {own : String} {n d : Nat} {ret : Option FieldType} {enc : ρ → Option Value} {o : Option α} {pc pc' : Nat} {L L' : List (Nat × Value)} {st : List Value} {X : σ}
theorem J_zb {v : Int32} (k : v = 0 ∨ v = 1 → J V E fin o pc L st X) : J V E fin (zb v o) pc L st X := by
  unfold zb
  exact J_ite k (fun _ => J_none)
theorem J_ldcS (hE : JOk V E cc RX3 n d ret enc) {ix : Nat} (hd : jd cc pc (.ldc ix) 2 pc') {k : Nat} (hk : k < 8) (hix : jj_six.getD k 0 = ix) (kk : J V E fin o pc' L (.ref (V.2.2.2.2.1 k) :: st) X) : J V E fin o pc L st X := by
  obtain ⟨p, l, e, R, s, m, args, below, meth, c, nL, A, cn, sn, Q, res⟩ := E
  obtain ⟨hx, hb, ⟨hml, hnL⟩, hown, hts, hR, hK, hA, hSt, hq⟩ := hE
  obtain ⟨hd, rfl⟩ := hd
  subst hix
  intro ho H locs ls hP hD hS hl
  exact va_ldcS hx hb hown (hSt.2.1 k hk) hd (kk ho H locs ls hP hD hS hl)
/-- a call on a String constant -/
theorem J_invK (hE : JOk V E cc own n d ret enc) {y : MethodName} {cc' : ByteArray} {n' d' k ka ix : Nat} {ret' : Option FieldType} {As : List Value} {o1 : Option Int32} {K : Int32 → Option α} {stk : List Value}
    (hC : JC E.2.1 V y cc' n' ret' jj_i d' (.ref (V.2.2.2.2.1 k) :: As) X (o1.map (fun r => (r, X)))) (hk8 : k < 8) (hm : jmV y cc' n' ret' ka) (hyc : y.cls = "java/lang/String") (hk : As.length = ka) (hl : Cond.methodLink own ix y ∈ jj_tb) (hdd : d' + 1 ≤ d) (hn' : n' ≤ 41) (hst : stk = As.reverse ++ .ref (V.2.2.2.2.1 k) :: st) (hcat : (st.map fun v => v.category).sum ≤ 8) (hd : jd cc pc (.invokevirtual ix) 3 pc')
    (kk : ∀ q : Int32, J V E fin (K q) pc' L (.int q :: st) X) : J V E fin (o1.bind K) pc L stk X := by
  obtain ⟨p, l, e, R, s, m, args, below, meth, c, nL, A, cn, sn, Q, res⟩ := E
  obtain ⟨hx, hb, ⟨hml, hnL⟩, hown, hts, hR, hK, hA, hSt, hq⟩ := hE
  obtain ⟨hd, rfl⟩ := hd
  subst hst
  intro ho H locs ls hP hD hS hl'
  cases hq1 : o1 with
  | none => rw [hq1] at ho; exact absurd ho (by simp)
  | some q =>
    rw [hq1] at ho
    have hpre := jj_pre (av := Value.ref (V.2.2.2.2.1 k) :: As) hK hSt hA hP hD hS
    have hfr : ∀ x, va_A (V.2.2.2.1 X) H.size x → A x := fun x h => by
      rcases h with ⟨k, e, h⟩ | h
      · exact hD.2 k _ h
      · exact hA x (Nat.le_trans hS.1 h)
    have hrv := vk_recv hSt.1 hk8 hS
    rw [← hyc] at hrv
    refine jj_back (va_runV (nL := nL) (As := As) (rest := st) ⟨hx, hb, by rw [hml, hnL], hown, hts⟩ (hC (q, X) (by rw [hq1]; rfl) H.size) (cwV ka hts (jj_goodV hm hl) rfl rfl rfl ⟨rfl, hm.1.2.2.1.1, hm.1.2.2.1.2, hm.1.2.2.2⟩ (jj_room hdd hn' ⟨hR.1, hR.2.1⟩)) ⟨hpre.1, hrv, hpre.2⟩ rfl hk hl'.1 rfl (lv_room (pc := pc) (ls := ls) (rest := As.reverse ++ .ref (V.2.2.2.2.1 k) :: st) (m := m) hcat) hd ⟨hR.2.2.1, hR.2.2.2⟩) hS hfr hfr (fun H1 locs1 hP1 hD1 hS1 => ?_)
    exact kk q ho H1 locs1 ls hP1 hD1 hS1 hl'
end J2
section J3
variable {σ1 σ2 ρ α : Type} {fin : α → ρ × (σ1 × σ2)} {V : JV (σ1 × σ2)} {E : JE (σ1 × σ2) ρ} {pc : Nat} {L : List (Nat × Value)} {st : List Value}
theorem J_let1 {f : σ1 → Option α} {e : σ1} {S : σ2} (k : ∀ x, J V E fin (f x) pc L st (x, S)) : J V E fin (lt e f) pc L st (e, S) := k e
theorem J_let2 {f : σ2 → Option α} {e : σ2} {T : σ1} (k : ∀ x, J V E fin (f x) pc L st (T, x)) : J V E fin (lt e f) pc L st (T, e) := k e
theorem J_letP {f : σ1 → σ2 → Option α} {q : σ1 × σ2} (k : ∀ x y, J V E fin (f x y) pc L st (x, y)) : J V E fin (lt q.1 (fun x => lt q.2 (fun y => f x y))) pc L st q := k q.1 q.2
end J3
section CK
variable {σ ρ α : Type} {fin : α → ρ × σ} {V : JV σ} {E : JE σ ρ} {cc : ByteArray} {own : String} {n d : Nat} {ret : Option FieldType} {enc : ρ → Option Value} {pc pc' : Nat} {L : List (Nat × Value)} {st : List Value} {X : σ}
theorem J_invVri (hE : JOk V E cc own n d ret enc) {y : MethodName} {cc' : ByteArray} {n' d' k ix : Nat} {ret' : Option FieldType} {T : u_T} {N : Nat} {fs : List Value} {b : Nat} {As : List Value} {o1 : Option Int32} {K : Int32 → Option α} {stk : List Value} (hC : JC E.2.1 V y cc' n' ret' jj_i d' (.ref b :: As) X (o1.map (fun r => (r, X)))) (hO : jO V X b (y.cls, T, N) fs) (hm : jmV y cc' n' ret' k) (hk : As.length = k) (hl : Cond.methodLink own ix y ∈ jj_tb) (hdd : d' + 1 ≤ d) (hn' : n' ≤ 41) (hst : stk = As.reverse ++ .ref b :: st) (hcat : (st.map fun v => v.category).sum ≤ 8) (hd : jd cc pc (.invokevirtual ix) 3 pc') (kk : ∀ q : Int32, J V E fin (K q) pc' L (.int q :: st) X) : J V E fin (o1.bind K) pc L stk X := J_invV hE hC hO hm hk hl hdd hn' hst hcat hd (fun q _ => kk q)
theorem J_invVrl (hE : JOk V E cc own n d ret enc) {y : MethodName} {cc' : ByteArray} {n' d' k ix : Nat} {ret' : Option FieldType} {T : u_T} {N : Nat} {fs : List Value} {b : Nat} {As : List Value} {o1 : Option Int64} {K : Int64 → Option α} {stk : List Value} (hC : JC E.2.1 V y cc' n' ret' jj_l d' (.ref b :: As) X (o1.map (fun r => (r, X)))) (hO : jO V X b (y.cls, T, N) fs) (hm : jmV y cc' n' ret' k) (hk : As.length = k) (hl : Cond.methodLink own ix y ∈ jj_tb) (hdd : d' + 1 ≤ d) (hn' : n' ≤ 41) (hst : stk = As.reverse ++ .ref b :: st) (hcat : (st.map fun v => v.category).sum ≤ 8) (hd : jd cc pc (.invokevirtual ix) 3 pc') (kk : ∀ q : Int64, J V E fin (K q) pc' L (.long q :: st) X) : J V E fin (o1.bind K) pc L stk X := J_invV hE hC hO hm hk hl hdd hn' hst hcat hd (fun q _ => kk q)
theorem J_invVwi (hE : JOk V E cc own n d ret enc) {y : MethodName} {cc' : ByteArray} {n' d' k ix : Nat} {ret' : Option FieldType} {T : u_T} {N : Nat} {fs : List Value} {b : Nat} {As : List Value} {τ : Type} {e : τ → σ} {o1 : Option (Int32 × τ)} {K : (Int32 × τ) → Option α} {stk : List Value} (hC : JC E.2.1 V y cc' n' ret' jj_i d' (.ref b :: As) X (o1.map (fun q => (q.1, e q.2)))) (hO : jO V X b (y.cls, T, N) fs) (hm : jmV y cc' n' ret' k) (hk : As.length = k) (hl : Cond.methodLink own ix y ∈ jj_tb) (hdd : d' + 1 ≤ d) (hn' : n' ≤ 41) (hst : stk = As.reverse ++ .ref b :: st) (hcat : (st.map fun v => v.category).sum ≤ 8) (hd : jd cc pc (.invokevirtual ix) 3 pc') (kk : ∀ q : (Int32 × τ), J V E fin (K q) pc' L (.int q.1 :: st) (e q.2)) : J V E fin (o1.bind K) pc L stk X := J_invV hE hC hO hm hk hl hdd hn' hst hcat hd (fun q _ => kk q)
theorem J_invVwv (hE : JOk V E cc own n d ret enc) {y : MethodName} {cc' : ByteArray} {n' d' k ix : Nat} {ret' : Option FieldType} {T : u_T} {N : Nat} {fs : List Value} {b : Nat} {As : List Value} {τ : Type} {e : τ → σ} {o1 : Option τ} {K : τ → Option α} {stk : List Value} (hC : JC E.2.1 V y cc' n' ret' jj_v d' (.ref b :: As) X (o1.map (fun q => ((), e q)))) (hO : jO V X b (y.cls, T, N) fs) (hm : jmV y cc' n' ret' k) (hk : As.length = k) (hl : Cond.methodLink own ix y ∈ jj_tb) (hdd : d' + 1 ≤ d) (hn' : n' ≤ 41) (hst : stk = As.reverse ++ .ref b :: st) (hcat : (st.map fun v => v.category).sum ≤ 8) (hd : jd cc pc (.invokevirtual ix) 3 pc') (kk : ∀ q : τ, J V E fin (K q) pc' L (st) (e q)) : J V E fin (o1.bind K) pc L stk X := J_invV hE hC hO hm hk hl hdd hn' hst hcat hd (fun q _ => kk q)
theorem J_invVwl (hE : JOk V E cc own n d ret enc) {y : MethodName} {cc' : ByteArray} {n' d' k ix : Nat} {ret' : Option FieldType} {T : u_T} {N : Nat} {fs : List Value} {b : Nat} {As : List Value} {τ : Type} {e : τ → σ} {o1 : Option (Int64 × τ)} {K : (Int64 × τ) → Option α} {stk : List Value} (hC : JC E.2.1 V y cc' n' ret' jj_l d' (.ref b :: As) X (o1.map (fun q => (q.1, e q.2)))) (hO : jO V X b (y.cls, T, N) fs) (hm : jmV y cc' n' ret' k) (hk : As.length = k) (hl : Cond.methodLink own ix y ∈ jj_tb) (hdd : d' + 1 ≤ d) (hn' : n' ≤ 41) (hst : stk = As.reverse ++ .ref b :: st) (hcat : (st.map fun v => v.category).sum ≤ 8) (hd : jd cc pc (.invokevirtual ix) 3 pc') (kk : ∀ q : (Int64 × τ), J V E fin (K q) pc' L (.long q.1 :: st) (e q.2)) : J V E fin (o1.bind K) pc L stk X := J_invV hE hC hO hm hk hl hdd hn' hst hcat hd (fun q _ => kk q)
theorem J_invSri (hE : JOk V E cc own n d ret enc) {y : MethodName} {cc' : ByteArray} {n' d' k ix : Nat} {ret' : Option FieldType} {As : List Value} {o1 : Option Int32} {K : Int32 → Option α} {stk : List Value} (hC : JC E.2.1 V y cc' n' ret' jj_i d' As X (o1.map (fun r => (r, X)))) (hm : jmS y cc' n' ret' k) (hsta : Cond.static y ∈ jj_tb) (hk : As.length = k) (hl : Cond.methodLink own ix y ∈ jj_tb) (hdd : d' + 1 ≤ d) (hn' : n' ≤ 41) (hst : stk = As.reverse ++ st) (hcat : (st.map fun v => v.category).sum ≤ 8) (hd : jd cc pc (.invokestatic ix) 3 pc') (kk : ∀ q : Int32, J V E fin (K q) pc' L (.int q :: st) X) : J V E fin (o1.bind K) pc L stk X := J_invS hE hC hm hsta hk hl hdd hn' hst hcat hd (fun q _ => kk q)
theorem J_invSrl (hE : JOk V E cc own n d ret enc) {y : MethodName} {cc' : ByteArray} {n' d' k ix : Nat} {ret' : Option FieldType} {As : List Value} {o1 : Option Int64} {K : Int64 → Option α} {stk : List Value} (hC : JC E.2.1 V y cc' n' ret' jj_l d' As X (o1.map (fun r => (r, X)))) (hm : jmS y cc' n' ret' k) (hsta : Cond.static y ∈ jj_tb) (hk : As.length = k) (hl : Cond.methodLink own ix y ∈ jj_tb) (hdd : d' + 1 ≤ d) (hn' : n' ≤ 41) (hst : stk = As.reverse ++ st) (hcat : (st.map fun v => v.category).sum ≤ 8) (hd : jd cc pc (.invokestatic ix) 3 pc') (kk : ∀ q : Int64, J V E fin (K q) pc' L (.long q :: st) X) : J V E fin (o1.bind K) pc L stk X := J_invS hE hC hm hsta hk hl hdd hn' hst hcat hd (fun q _ => kk q)
theorem J_invSwi (hE : JOk V E cc own n d ret enc) {y : MethodName} {cc' : ByteArray} {n' d' k ix : Nat} {ret' : Option FieldType} {As : List Value} {τ : Type} {e : τ → σ} {o1 : Option (Int32 × τ)} {K : (Int32 × τ) → Option α} {stk : List Value} (hC : JC E.2.1 V y cc' n' ret' jj_i d' As X (o1.map (fun q => (q.1, e q.2)))) (hm : jmS y cc' n' ret' k) (hsta : Cond.static y ∈ jj_tb) (hk : As.length = k) (hl : Cond.methodLink own ix y ∈ jj_tb) (hdd : d' + 1 ≤ d) (hn' : n' ≤ 41) (hst : stk = As.reverse ++ st) (hcat : (st.map fun v => v.category).sum ≤ 8) (hd : jd cc pc (.invokestatic ix) 3 pc') (kk : ∀ q : (Int32 × τ), J V E fin (K q) pc' L (.int q.1 :: st) (e q.2)) : J V E fin (o1.bind K) pc L stk X := J_invS hE hC hm hsta hk hl hdd hn' hst hcat hd (fun q _ => kk q)
theorem J_invSwv (hE : JOk V E cc own n d ret enc) {y : MethodName} {cc' : ByteArray} {n' d' k ix : Nat} {ret' : Option FieldType} {As : List Value} {τ : Type} {e : τ → σ} {o1 : Option τ} {K : τ → Option α} {stk : List Value} (hC : JC E.2.1 V y cc' n' ret' jj_v d' As X (o1.map (fun q => ((), e q)))) (hm : jmS y cc' n' ret' k) (hsta : Cond.static y ∈ jj_tb) (hk : As.length = k) (hl : Cond.methodLink own ix y ∈ jj_tb) (hdd : d' + 1 ≤ d) (hn' : n' ≤ 41) (hst : stk = As.reverse ++ st) (hcat : (st.map fun v => v.category).sum ≤ 8) (hd : jd cc pc (.invokestatic ix) 3 pc') (kk : ∀ q : τ, J V E fin (K q) pc' L (st) (e q)) : J V E fin (o1.bind K) pc L stk X := J_invS hE hC hm hsta hk hl hdd hn' hst hcat hd (fun q _ => kk q)
theorem J_invSwl (hE : JOk V E cc own n d ret enc) {y : MethodName} {cc' : ByteArray} {n' d' k ix : Nat} {ret' : Option FieldType} {As : List Value} {τ : Type} {e : τ → σ} {o1 : Option (Int64 × τ)} {K : (Int64 × τ) → Option α} {stk : List Value} (hC : JC E.2.1 V y cc' n' ret' jj_l d' As X (o1.map (fun q => (q.1, e q.2)))) (hm : jmS y cc' n' ret' k) (hsta : Cond.static y ∈ jj_tb) (hk : As.length = k) (hl : Cond.methodLink own ix y ∈ jj_tb) (hdd : d' + 1 ≤ d) (hn' : n' ≤ 41) (hst : stk = As.reverse ++ st) (hcat : (st.map fun v => v.category).sum ≤ 8) (hd : jd cc pc (.invokestatic ix) 3 pc') (kk : ∀ q : (Int64 × τ), J V E fin (K q) pc' L (.long q.1 :: st) (e q.2)) : J V E fin (o1.bind K) pc L stk X := J_invS hE hC hm hsta hk hl hdd hn' hst hcat hd (fun q _ => kk q)
theorem J_invNri (hE : JOk V E cc own n d ret enc) {y : MethodName} {host : String} {cc' : ByteArray} {n' d' k ix : Nat} {ret' : Option FieldType} {As : List Value} {o1 : Option Int32} {K : Int32 → Option α} {stk : List Value} (hC : JC E.2.1 V y cc' n' ret' jj_i d' As X (o1.map (fun r => (r, X)))) (hm : jmS y cc' n' ret' k) (hsta : Cond.static y ∈ jj_tb) (hk : As.length = k) (hl : (own, ix, y, host) ∈ jj_nest) (hdd : d' + 1 ≤ d) (hn' : n' ≤ 41) (hst : stk = As.reverse ++ st) (hcat : (st.map fun v => v.category).sum ≤ 8) (hd : jd cc pc (.invokestatic ix) 3 pc') (kk : ∀ q : Int32, J V E fin (K q) pc' L (.int q :: st) X) : J V E fin (o1.bind K) pc L stk X := J_invN hE hC hm hsta hk hl hdd hn' hst hcat hd (fun q _ => kk q)
theorem J_invNrl (hE : JOk V E cc own n d ret enc) {y : MethodName} {host : String} {cc' : ByteArray} {n' d' k ix : Nat} {ret' : Option FieldType} {As : List Value} {o1 : Option Int64} {K : Int64 → Option α} {stk : List Value} (hC : JC E.2.1 V y cc' n' ret' jj_l d' As X (o1.map (fun r => (r, X)))) (hm : jmS y cc' n' ret' k) (hsta : Cond.static y ∈ jj_tb) (hk : As.length = k) (hl : (own, ix, y, host) ∈ jj_nest) (hdd : d' + 1 ≤ d) (hn' : n' ≤ 41) (hst : stk = As.reverse ++ st) (hcat : (st.map fun v => v.category).sum ≤ 8) (hd : jd cc pc (.invokestatic ix) 3 pc') (kk : ∀ q : Int64, J V E fin (K q) pc' L (.long q :: st) X) : J V E fin (o1.bind K) pc L stk X := J_invN hE hC hm hsta hk hl hdd hn' hst hcat hd (fun q _ => kk q)
theorem J_invNwi (hE : JOk V E cc own n d ret enc) {y : MethodName} {host : String} {cc' : ByteArray} {n' d' k ix : Nat} {ret' : Option FieldType} {As : List Value} {τ : Type} {e : τ → σ} {o1 : Option (Int32 × τ)} {K : (Int32 × τ) → Option α} {stk : List Value} (hC : JC E.2.1 V y cc' n' ret' jj_i d' As X (o1.map (fun q => (q.1, e q.2)))) (hm : jmS y cc' n' ret' k) (hsta : Cond.static y ∈ jj_tb) (hk : As.length = k) (hl : (own, ix, y, host) ∈ jj_nest) (hdd : d' + 1 ≤ d) (hn' : n' ≤ 41) (hst : stk = As.reverse ++ st) (hcat : (st.map fun v => v.category).sum ≤ 8) (hd : jd cc pc (.invokestatic ix) 3 pc') (kk : ∀ q : (Int32 × τ), J V E fin (K q) pc' L (.int q.1 :: st) (e q.2)) : J V E fin (o1.bind K) pc L stk X := J_invN hE hC hm hsta hk hl hdd hn' hst hcat hd (fun q _ => kk q)
theorem J_invNwv (hE : JOk V E cc own n d ret enc) {y : MethodName} {host : String} {cc' : ByteArray} {n' d' k ix : Nat} {ret' : Option FieldType} {As : List Value} {τ : Type} {e : τ → σ} {o1 : Option τ} {K : τ → Option α} {stk : List Value} (hC : JC E.2.1 V y cc' n' ret' jj_v d' As X (o1.map (fun q => ((), e q)))) (hm : jmS y cc' n' ret' k) (hsta : Cond.static y ∈ jj_tb) (hk : As.length = k) (hl : (own, ix, y, host) ∈ jj_nest) (hdd : d' + 1 ≤ d) (hn' : n' ≤ 41) (hst : stk = As.reverse ++ st) (hcat : (st.map fun v => v.category).sum ≤ 8) (hd : jd cc pc (.invokestatic ix) 3 pc') (kk : ∀ q : τ, J V E fin (K q) pc' L (st) (e q)) : J V E fin (o1.bind K) pc L stk X := J_invN hE hC hm hsta hk hl hdd hn' hst hcat hd (fun q _ => kk q)
theorem J_invNwl (hE : JOk V E cc own n d ret enc) {y : MethodName} {host : String} {cc' : ByteArray} {n' d' k ix : Nat} {ret' : Option FieldType} {As : List Value} {τ : Type} {e : τ → σ} {o1 : Option (Int64 × τ)} {K : (Int64 × τ) → Option α} {stk : List Value} (hC : JC E.2.1 V y cc' n' ret' jj_l d' As X (o1.map (fun q => (q.1, e q.2)))) (hm : jmS y cc' n' ret' k) (hsta : Cond.static y ∈ jj_tb) (hk : As.length = k) (hl : (own, ix, y, host) ∈ jj_nest) (hdd : d' + 1 ≤ d) (hn' : n' ≤ 41) (hst : stk = As.reverse ++ st) (hcat : (st.map fun v => v.category).sum ≤ 8) (hd : jd cc pc (.invokestatic ix) 3 pc') (kk : ∀ q : (Int64 × τ), J V E fin (K q) pc' L (.long q.1 :: st) (e q.2)) : J V E fin (o1.bind K) pc L stk X := J_invN hE hC hm hsta hk hl hdd hn' hst hcat hd (fun q _ => kk q)
end CK
end
