section
-- ===== PART A: goes FIRST, ahead of the names: the tables' words, and 'selects' of the private methods out of them =====
/-- a private method of a class that the tables say can be made, by its rows of tables_1 -/
def lw_okq (q : MethodName × Nat) : Prop := (q.1.cls ≠ "java/lang/invoke/MethodHandle" ∧ q.1.cls ≠ "java/lang/invoke/VarHandle") ∧ Cond.instantiable q.1.cls q.2 ∈ tables_1 ∧ Cond.privateMethod q.1 ∈ tables_1 ∧ Cond.instanceMethod q.1 ∈ tables_1
theorem lw_p0 : lw_okq (⟨"MothCustoms$Tape", "nextToken", "()V"⟩, 11) := ⟨⟨by decide +kernel, by decide +kernel⟩, List.mem_of_getElem? (i := 23) (by decide +kernel), List.mem_of_getElem? (i := 254) (by decide +kernel), List.mem_of_getElem? (i := 255) (by decide +kernel)⟩
theorem lw_p1 : lw_okq (⟨"MothCustoms$Tape", "readName", "()V"⟩, 11) := ⟨⟨by decide +kernel, by decide +kernel⟩, List.mem_of_getElem? (i := 23) (by decide +kernel), List.mem_of_getElem? (i := 261) (by decide +kernel), List.mem_of_getElem? (i := 262) (by decide +kernel)⟩
theorem lw_p2 : lw_okq (⟨"MothCustoms$Tape", "readNumber", "()V"⟩, 11) := ⟨⟨by decide +kernel, by decide +kernel⟩, List.mem_of_getElem? (i := 23) (by decide +kernel), List.mem_of_getElem? (i := 268) (by decide +kernel), List.mem_of_getElem? (i := 269) (by decide +kernel)⟩
theorem lw_p3 : lw_okq (⟨"MothCustoms$Tape", "refuse", "(II)Z"⟩, 11) := ⟨⟨by decide +kernel, by decide +kernel⟩, List.mem_of_getElem? (i := 23) (by decide +kernel), List.mem_of_getElem? (i := 272) (by decide +kernel), List.mem_of_getElem? (i := 273) (by decide +kernel)⟩
theorem lw_p4 : lw_okq (⟨"MothCustoms$Tape", "tellLine", "(LMothCustoms$Shed;)Z"⟩, 11) := ⟨⟨by decide +kernel, by decide +kernel⟩, List.mem_of_getElem? (i := 23) (by decide +kernel), List.mem_of_getElem? (i := 276) (by decide +kernel), List.mem_of_getElem? (i := 277) (by decide +kernel)⟩
theorem lw_p5 : lw_okq (⟨"MothCustoms$Tape", "lineNamed", "()I"⟩, 11) := ⟨⟨by decide +kernel, by decide +kernel⟩, List.mem_of_getElem? (i := 23) (by decide +kernel), List.mem_of_getElem? (i := 280) (by decide +kernel), List.mem_of_getElem? (i := 281) (by decide +kernel)⟩
theorem lw_p6 : lw_okq (⟨"MothCustoms$Tape", "isName", "(Ljava/lang/String;)Z"⟩, 11) := ⟨⟨by decide +kernel, by decide +kernel⟩, List.mem_of_getElem? (i := 23) (by decide +kernel), List.mem_of_getElem? (i := 285) (by decide +kernel), List.mem_of_getElem? (i := 286) (by decide +kernel)⟩
theorem lw_p7 : lw_okq (⟨"MothCustoms$Tape", "readNumbers", "(ILMothCustoms$Shed;)Z"⟩, 11) := ⟨⟨by decide +kernel, by decide +kernel⟩, List.mem_of_getElem? (i := 23) (by decide +kernel), List.mem_of_getElem? (i := 344) (by decide +kernel), List.mem_of_getElem? (i := 345) (by decide +kernel)⟩
theorem lw_p8 : lw_okq (⟨"MothCustoms$Tape", "take", "(ILMothCustoms$Shed;)V"⟩, 11) := ⟨⟨by decide +kernel, by decide +kernel⟩, List.mem_of_getElem? (i := 23) (by decide +kernel), List.mem_of_getElem? (i := 359) (by decide +kernel), List.mem_of_getElem? (i := 360) (by decide +kernel)⟩
theorem lw_p9 : lw_okq (⟨"MothCustoms$Shed", "eatDown", "(I)V"⟩, 18) := ⟨⟨by decide +kernel, by decide +kernel⟩, List.mem_of_getElem? (i := 68) (by decide +kernel), List.mem_of_getElem? (i := 529) (by decide +kernel), List.mem_of_getElem? (i := 530) (by decide +kernel)⟩
theorem lw_p10 : lw_okq (⟨"MothCustoms", "tryNight", "(I)V"⟩, 8) := ⟨⟨by decide +kernel, by decide +kernel⟩, List.mem_of_getElem? (i := 15) (by decide +kernel), List.mem_of_getElem? (i := 557) (by decide +kernel), List.mem_of_getElem? (i := 558) (by decide +kernel)⟩
theorem lw_p11 : lw_okq (⟨"MothCustoms", "leastBy", "(ZI)I"⟩, 8) := ⟨⟨by decide +kernel, by decide +kernel⟩, List.mem_of_getElem? (i := 15) (by decide +kernel), List.mem_of_getElem? (i := 590) (by decide +kernel), List.mem_of_getElem? (i := 591) (by decide +kernel)⟩
theorem lw_p12 : lw_okq (⟨"MothCustoms", "weight", "(II)J"⟩, 8) := ⟨⟨by decide +kernel, by decide +kernel⟩, List.mem_of_getElem? (i := 15) (by decide +kernel), List.mem_of_getElem? (i := 607) (by decide +kernel), List.mem_of_getElem? (i := 608) (by decide +kernel)⟩
theorem lw_p13 : lw_okq (⟨"MothCustoms", "partOfFraction", "(JI)J"⟩, 8) := ⟨⟨by decide +kernel, by decide +kernel⟩, List.mem_of_getElem? (i := 15) (by decide +kernel), List.mem_of_getElem? (i := 611) (by decide +kernel), List.mem_of_getElem? (i := 612) (by decide +kernel)⟩
theorem lw_p14 : lw_okq (⟨"MothCustomsModel", "firstDraft", "()V"⟩, 25) := ⟨⟨by decide +kernel, by decide +kernel⟩, List.mem_of_getElem? (i := 729) (by decide +kernel), List.mem_of_getElem? (i := 735) (by decide +kernel), List.mem_of_getElem? (i := 736) (by decide +kernel)⟩
theorem lw_p15 : lw_okq (⟨"MothCustomsModel", "keepDraft", "()V"⟩, 25) := ⟨⟨by decide +kernel, by decide +kernel⟩, List.mem_of_getElem? (i := 729) (by decide +kernel), List.mem_of_getElem? (i := 739) (by decide +kernel), List.mem_of_getElem? (i := 740) (by decide +kernel)⟩
def lw_privs_1 : List (MethodName × Nat) := [(⟨"MothCustoms$Tape", "nextToken", "()V"⟩, 11), (⟨"MothCustoms$Tape", "readName", "()V"⟩, 11), (⟨"MothCustoms$Tape", "readNumber", "()V"⟩, 11), (⟨"MothCustoms$Tape", "refuse", "(II)Z"⟩, 11), (⟨"MothCustoms$Tape", "tellLine", "(LMothCustoms$Shed;)Z"⟩, 11), (⟨"MothCustoms$Tape", "lineNamed", "()I"⟩, 11), (⟨"MothCustoms$Tape", "isName", "(Ljava/lang/String;)Z"⟩, 11), (⟨"MothCustoms$Tape", "readNumbers", "(ILMothCustoms$Shed;)Z"⟩, 11), (⟨"MothCustoms$Tape", "take", "(ILMothCustoms$Shed;)V"⟩, 11), (⟨"MothCustoms$Shed", "eatDown", "(I)V"⟩, 18), (⟨"MothCustoms", "tryNight", "(I)V"⟩, 8), (⟨"MothCustoms", "leastBy", "(ZI)I"⟩, 8), (⟨"MothCustoms", "weight", "(II)J"⟩, 8), (⟨"MothCustoms", "partOfFraction", "(JI)J"⟩, 8), (⟨"MothCustomsModel", "firstDraft", "()V"⟩, 25), (⟨"MothCustomsModel", "keepDraft", "()V"⟩, 25)]
theorem lw_r1 : ∀ q ∈ lw_privs_1, lw_okq q := List.forall_mem_cons.mpr ⟨lw_p0, List.forall_mem_cons.mpr ⟨lw_p1, List.forall_mem_cons.mpr ⟨lw_p2, List.forall_mem_cons.mpr ⟨lw_p3, List.forall_mem_cons.mpr ⟨lw_p4, List.forall_mem_cons.mpr ⟨lw_p5, List.forall_mem_cons.mpr ⟨lw_p6, List.forall_mem_cons.mpr ⟨lw_p7, List.forall_mem_cons.mpr ⟨lw_p8, List.forall_mem_cons.mpr ⟨lw_p9, List.forall_mem_cons.mpr ⟨lw_p10, List.forall_mem_cons.mpr ⟨lw_p11, List.forall_mem_cons.mpr ⟨lw_p12, List.forall_mem_cons.mpr ⟨lw_p13, List.forall_mem_cons.mpr ⟨lw_p14, List.forall_mem_cons.mpr ⟨lw_p15, fun _ h => absurd h List.not_mem_nil⟩⟩⟩⟩⟩⟩⟩⟩⟩⟩⟩⟩⟩⟩⟩⟩
theorem lw_p16 : lw_okq (⟨"MothCustomsModel", "next", "()V"⟩, 25) := ⟨⟨by decide +kernel, by decide +kernel⟩, List.mem_of_getElem? (i := 729) (by decide +kernel), List.mem_of_getElem? (i := 836) (by decide +kernel), List.mem_of_getElem? (i := 837) (by decide +kernel)⟩
theorem lw_p17 : lw_okq (⟨"MothCustomsModel", "byteAt", "(I)I"⟩, 25) := ⟨⟨by decide +kernel, by decide +kernel⟩, List.mem_of_getElem? (i := 729) (by decide +kernel), List.mem_of_getElem? (i := 840) (by decide +kernel), List.mem_of_getElem? (i := 841) (by decide +kernel)⟩
theorem lw_p18 : lw_okq (⟨"MothCustomsModel", "needs", "(ZI)V"⟩, 25) := ⟨⟨by decide +kernel, by decide +kernel⟩, List.mem_of_getElem? (i := 729) (by decide +kernel), List.mem_of_getElem? (i := 848) (by decide +kernel), List.mem_of_getElem? (i := 849) (by decide +kernel)⟩
theorem lw_p19 : lw_okq (⟨"MothCustomsModel", "readLine", "()V"⟩, 25) := ⟨⟨by decide +kernel, by decide +kernel⟩, List.mem_of_getElem? (i := 729) (by decide +kernel), List.mem_of_getElem? (i := 852) (by decide +kernel), List.mem_of_getElem? (i := 853) (by decide +kernel)⟩
theorem lw_p20 : lw_okq (⟨"MothCustomsModel", "lineNow", "()I"⟩, 25) := ⟨⟨by decide +kernel, by decide +kernel⟩, List.mem_of_getElem? (i := 729) (by decide +kernel), List.mem_of_getElem? (i := 856) (by decide +kernel), List.mem_of_getElem? (i := 857) (by decide +kernel)⟩
theorem lw_p21 : lw_okq (⟨"MothCustomsModel", "is", "(IIII)Z"⟩, 25) := ⟨⟨by decide +kernel, by decide +kernel⟩, List.mem_of_getElem? (i := 729) (by decide +kernel), List.mem_of_getElem? (i := 860) (by decide +kernel), List.mem_of_getElem? (i := 861) (by decide +kernel)⟩
theorem lw_p22 : lw_okq (⟨"MothCustomsModel", "ends", "(IIII)Z"⟩, 25) := ⟨⟨by decide +kernel, by decide +kernel⟩, List.mem_of_getElem? (i := 729) (by decide +kernel), List.mem_of_getElem? (i := 864) (by decide +kernel), List.mem_of_getElem? (i := 865) (by decide +kernel)⟩
theorem lw_p23 : lw_okq (⟨"MothCustomsModel", "readLineOf", "(I)V"⟩, 25) := ⟨⟨by decide +kernel, by decide +kernel⟩, List.mem_of_getElem? (i := 729) (by decide +kernel), List.mem_of_getElem? (i := 868) (by decide +kernel), List.mem_of_getElem? (i := 869) (by decide +kernel)⟩
theorem lw_p24 : lw_okq (⟨"MothCustomsModel", "readBolt", "()V"⟩, 25) := ⟨⟨by decide +kernel, by decide +kernel⟩, List.mem_of_getElem? (i := 729) (by decide +kernel), List.mem_of_getElem? (i := 872) (by decide +kernel), List.mem_of_getElem? (i := 873) (by decide +kernel)⟩
theorem lw_p25 : lw_okq (⟨"MothCustomsModel", "readNumber", "(II)I"⟩, 25) := ⟨⟨by decide +kernel, by decide +kernel⟩, List.mem_of_getElem? (i := 729) (by decide +kernel), List.mem_of_getElem? (i := 876) (by decide +kernel), List.mem_of_getElem? (i := 877) (by decide +kernel)⟩
theorem lw_p26 : lw_okq (⟨"MothCustomsModel", "looked", "(II)I"⟩, 25) := ⟨⟨by decide +kernel, by decide +kernel⟩, List.mem_of_getElem? (i := 729) (by decide +kernel), List.mem_of_getElem? (i := 880) (by decide +kernel), List.mem_of_getElem? (i := 881) (by decide +kernel)⟩
theorem lw_p27 : lw_okq (⟨"MothCustomsModel", "readCamphor", "()V"⟩, 25) := ⟨⟨by decide +kernel, by decide +kernel⟩, List.mem_of_getElem? (i := 729) (by decide +kernel), List.mem_of_getElem? (i := 887) (by decide +kernel), List.mem_of_getElem? (i := 888) (by decide +kernel)⟩
theorem lw_p28 : lw_okq (⟨"MothCustomsModel", "readMoth", "(I)V"⟩, 25) := ⟨⟨by decide +kernel, by decide +kernel⟩, List.mem_of_getElem? (i := 729) (by decide +kernel), List.mem_of_getElem? (i := 891) (by decide +kernel), List.mem_of_getElem? (i := 892) (by decide +kernel)⟩
theorem lw_p29 : lw_okq (⟨"MothCustomsModel", "starts", "()V"⟩, 25) := ⟨⟨by decide +kernel, by decide +kernel⟩, List.mem_of_getElem? (i := 729) (by decide +kernel), List.mem_of_getElem? (i := 903) (by decide +kernel), List.mem_of_getElem? (i := 904) (by decide +kernel)⟩
theorem lw_p30 : lw_okq (⟨"MothCustomsModel", "of", "(II)I"⟩, 25) := ⟨⟨by decide +kernel, by decide +kernel⟩, List.mem_of_getElem? (i := 729) (by decide +kernel), List.mem_of_getElem? (i := 907) (by decide +kernel), List.mem_of_getElem? (i := 908) (by decide +kernel)⟩
theorem lw_p31 : lw_okq (⟨"MothCustomsModel", "eaten", "()I"⟩, 25) := ⟨⟨by decide +kernel, by decide +kernel⟩, List.mem_of_getElem? (i := 729) (by decide +kernel), List.mem_of_getElem? (i := 911) (by decide +kernel), List.mem_of_getElem? (i := 912) (by decide +kernel)⟩
def lw_privs_2 : List (MethodName × Nat) := [(⟨"MothCustomsModel", "next", "()V"⟩, 25), (⟨"MothCustomsModel", "byteAt", "(I)I"⟩, 25), (⟨"MothCustomsModel", "needs", "(ZI)V"⟩, 25), (⟨"MothCustomsModel", "readLine", "()V"⟩, 25), (⟨"MothCustomsModel", "lineNow", "()I"⟩, 25), (⟨"MothCustomsModel", "is", "(IIII)Z"⟩, 25), (⟨"MothCustomsModel", "ends", "(IIII)Z"⟩, 25), (⟨"MothCustomsModel", "readLineOf", "(I)V"⟩, 25), (⟨"MothCustomsModel", "readBolt", "()V"⟩, 25), (⟨"MothCustomsModel", "readNumber", "(II)I"⟩, 25), (⟨"MothCustomsModel", "looked", "(II)I"⟩, 25), (⟨"MothCustomsModel", "readCamphor", "()V"⟩, 25), (⟨"MothCustomsModel", "readMoth", "(I)V"⟩, 25), (⟨"MothCustomsModel", "starts", "()V"⟩, 25), (⟨"MothCustomsModel", "of", "(II)I"⟩, 25), (⟨"MothCustomsModel", "eaten", "()I"⟩, 25)]
theorem lw_r2 : ∀ q ∈ lw_privs_2, lw_okq q := List.forall_mem_cons.mpr ⟨lw_p16, List.forall_mem_cons.mpr ⟨lw_p17, List.forall_mem_cons.mpr ⟨lw_p18, List.forall_mem_cons.mpr ⟨lw_p19, List.forall_mem_cons.mpr ⟨lw_p20, List.forall_mem_cons.mpr ⟨lw_p21, List.forall_mem_cons.mpr ⟨lw_p22, List.forall_mem_cons.mpr ⟨lw_p23, List.forall_mem_cons.mpr ⟨lw_p24, List.forall_mem_cons.mpr ⟨lw_p25, List.forall_mem_cons.mpr ⟨lw_p26, List.forall_mem_cons.mpr ⟨lw_p27, List.forall_mem_cons.mpr ⟨lw_p28, List.forall_mem_cons.mpr ⟨lw_p29, List.forall_mem_cons.mpr ⟨lw_p30, List.forall_mem_cons.mpr ⟨lw_p31, fun _ h => absurd h List.not_mem_nil⟩⟩⟩⟩⟩⟩⟩⟩⟩⟩⟩⟩⟩⟩⟩⟩
theorem lw_p32 : lw_okq (⟨"MothCustomsModel", "isEaten", "(I)Z"⟩, 25) := ⟨⟨by decide +kernel, by decide +kernel⟩, List.mem_of_getElem? (i := 729) (by decide +kernel), List.mem_of_getElem? (i := 915) (by decide +kernel), List.mem_of_getElem? (i := 916) (by decide +kernel)⟩
theorem lw_p33 : lw_okq (⟨"MothCustomsModel", "isBolt", "(I)Z"⟩, 25) := ⟨⟨by decide +kernel, by decide +kernel⟩, List.mem_of_getElem? (i := 729) (by decide +kernel), List.mem_of_getElem? (i := 923) (by decide +kernel), List.mem_of_getElem? (i := 924) (by decide +kernel)⟩
theorem lw_p34 : lw_okq (⟨"MothCustomsModel", "isMoth", "(I)Z"⟩, 25) := ⟨⟨by decide +kernel, by decide +kernel⟩, List.mem_of_getElem? (i := 729) (by decide +kernel), List.mem_of_getElem? (i := 932) (by decide +kernel), List.mem_of_getElem? (i := 933) (by decide +kernel)⟩
theorem lw_p35 : lw_okq (⟨"MothCustomsModel", "doesLike", "(II)Z"⟩, 25) := ⟨⟨by decide +kernel, by decide +kernel⟩, List.mem_of_getElem? (i := 729) (by decide +kernel), List.mem_of_getElem? (i := 936) (by decide +kernel), List.mem_of_getElem? (i := 937) (by decide +kernel)⟩
theorem lw_p36 : lw_okq (⟨"MothCustomsModel", "mothOf", "(II)I"⟩, 25) := ⟨⟨by decide +kernel, by decide +kernel⟩, List.mem_of_getElem? (i := 729) (by decide +kernel), List.mem_of_getElem? (i := 940) (by decide +kernel), List.mem_of_getElem? (i := 941) (by decide +kernel)⟩
theorem lw_p37 : lw_okq (⟨"MothCustomsModel", "appetite", "(I)I"⟩, 25) := ⟨⟨by decide +kernel, by decide +kernel⟩, List.mem_of_getElem? (i := 729) (by decide +kernel), List.mem_of_getElem? (i := 945) (by decide +kernel), List.mem_of_getElem? (i := 946) (by decide +kernel)⟩
theorem lw_p38 : lw_okq (⟨"MothCustomsModel", "liesIn", "(I)I"⟩, 25) := ⟨⟨by decide +kernel, by decide +kernel⟩, List.mem_of_getElem? (i := 729) (by decide +kernel), List.mem_of_getElem? (i := 957) (by decide +kernel), List.mem_of_getElem? (i := 958) (by decide +kernel)⟩
theorem lw_p39 : lw_okq (⟨"MothCustomsModel", "dutyOf", "(I)I"⟩, 25) := ⟨⟨by decide +kernel, by decide +kernel⟩, List.mem_of_getElem? (i := 729) (by decide +kernel), List.mem_of_getElem? (i := 961) (by decide +kernel), List.mem_of_getElem? (i := 962) (by decide +kernel)⟩
theorem lw_p40 : lw_okq (⟨"MothCustomsModel", "boltAt", "(II)I"⟩, 25) := ⟨⟨by decide +kernel, by decide +kernel⟩, List.mem_of_getElem? (i := 729) (by decide +kernel), List.mem_of_getElem? (i := 965) (by decide +kernel), List.mem_of_getElem? (i := 966) (by decide +kernel)⟩
theorem lw_p41 : lw_okq (⟨"MothCustomsModel", "folded", "(IIZ)I"⟩, 25) := ⟨⟨by decide +kernel, by decide +kernel⟩, List.mem_of_getElem? (i := 729) (by decide +kernel), List.mem_of_getElem? (i := 974) (by decide +kernel), List.mem_of_getElem? (i := 975) (by decide +kernel)⟩
theorem lw_p42 : lw_okq (⟨"MothCustomsModel", "folds", "(IIZ)V"⟩, 25) := ⟨⟨by decide +kernel, by decide +kernel⟩, List.mem_of_getElem? (i := 729) (by decide +kernel), List.mem_of_getElem? (i := 978) (by decide +kernel), List.mem_of_getElem? (i := 979) (by decide +kernel)⟩
theorem lw_p43 : lw_okq (⟨"MothCustomsModel", "becomesOf", "(III)V"⟩, 25) := ⟨⟨by decide +kernel, by decide +kernel⟩, List.mem_of_getElem? (i := 729) (by decide +kernel), List.mem_of_getElem? (i := 982) (by decide +kernel), List.mem_of_getElem? (i := 983) (by decide +kernel)⟩
theorem lw_p44 : lw_okq (⟨"MothCustomsModel", "settles", "()V"⟩, 25) := ⟨⟨by decide +kernel, by decide +kernel⟩, List.mem_of_getElem? (i := 729) (by decide +kernel), List.mem_of_getElem? (i := 986) (by decide +kernel), List.mem_of_getElem? (i := 987) (by decide +kernel)⟩
theorem lw_p45 : lw_okq (⟨"MothCustomsModel", "becomes", "(II)I"⟩, 25) := ⟨⟨by decide +kernel, by decide +kernel⟩, List.mem_of_getElem? (i := 729) (by decide +kernel), List.mem_of_getElem? (i := 998) (by decide +kernel), List.mem_of_getElem? (i := 999) (by decide +kernel)⟩
theorem lw_p46 : lw_okq (⟨"MothCustomsModel", "nightsGo", "(I)V"⟩, 25) := ⟨⟨by decide +kernel, by decide +kernel⟩, List.mem_of_getElem? (i := 729) (by decide +kernel), List.mem_of_getElem? (i := 1035) (by decide +kernel), List.mem_of_getElem? (i := 1036) (by decide +kernel)⟩
theorem lw_p47 : lw_okq (⟨"MothCustomsModel", "everyMoth", "()I"⟩, 25) := ⟨⟨by decide +kernel, by decide +kernel⟩, List.mem_of_getElem? (i := 729) (by decide +kernel), List.mem_of_getElem? (i := 1039) (by decide +kernel), List.mem_of_getElem? (i := 1040) (by decide +kernel)⟩
def lw_privs_3 : List (MethodName × Nat) := [(⟨"MothCustomsModel", "isEaten", "(I)Z"⟩, 25), (⟨"MothCustomsModel", "isBolt", "(I)Z"⟩, 25), (⟨"MothCustomsModel", "isMoth", "(I)Z"⟩, 25), (⟨"MothCustomsModel", "doesLike", "(II)Z"⟩, 25), (⟨"MothCustomsModel", "mothOf", "(II)I"⟩, 25), (⟨"MothCustomsModel", "appetite", "(I)I"⟩, 25), (⟨"MothCustomsModel", "liesIn", "(I)I"⟩, 25), (⟨"MothCustomsModel", "dutyOf", "(I)I"⟩, 25), (⟨"MothCustomsModel", "boltAt", "(II)I"⟩, 25), (⟨"MothCustomsModel", "folded", "(IIZ)I"⟩, 25), (⟨"MothCustomsModel", "folds", "(IIZ)V"⟩, 25), (⟨"MothCustomsModel", "becomesOf", "(III)V"⟩, 25), (⟨"MothCustomsModel", "settles", "()V"⟩, 25), (⟨"MothCustomsModel", "becomes", "(II)I"⟩, 25), (⟨"MothCustomsModel", "nightsGo", "(I)V"⟩, 25), (⟨"MothCustomsModel", "everyMoth", "()I"⟩, 25)]
theorem lw_r3 : ∀ q ∈ lw_privs_3, lw_okq q := List.forall_mem_cons.mpr ⟨lw_p32, List.forall_mem_cons.mpr ⟨lw_p33, List.forall_mem_cons.mpr ⟨lw_p34, List.forall_mem_cons.mpr ⟨lw_p35, List.forall_mem_cons.mpr ⟨lw_p36, List.forall_mem_cons.mpr ⟨lw_p37, List.forall_mem_cons.mpr ⟨lw_p38, List.forall_mem_cons.mpr ⟨lw_p39, List.forall_mem_cons.mpr ⟨lw_p40, List.forall_mem_cons.mpr ⟨lw_p41, List.forall_mem_cons.mpr ⟨lw_p42, List.forall_mem_cons.mpr ⟨lw_p43, List.forall_mem_cons.mpr ⟨lw_p44, List.forall_mem_cons.mpr ⟨lw_p45, List.forall_mem_cons.mpr ⟨lw_p46, List.forall_mem_cons.mpr ⟨lw_p47, fun _ h => absurd h List.not_mem_nil⟩⟩⟩⟩⟩⟩⟩⟩⟩⟩⟩⟩⟩⟩⟩⟩
theorem lw_p48 : lw_okq (⟨"MothCustomsModel", "nightGoes", "(I)V"⟩, 25) := ⟨⟨by decide +kernel, by decide +kernel⟩, List.mem_of_getElem? (i := 729) (by decide +kernel), List.mem_of_getElem? (i := 1043) (by decide +kernel), List.mem_of_getElem? (i := 1044) (by decide +kernel)⟩
theorem lw_p49 : lw_okq (⟨"MothCustomsModel", "eatsNow", "(I)I"⟩, 25) := ⟨⟨by decide +kernel, by decide +kernel⟩, List.mem_of_getElem? (i := 729) (by decide +kernel), List.mem_of_getElem? (i := 1047) (by decide +kernel), List.mem_of_getElem? (i := 1048) (by decide +kernel)⟩
theorem lw_p50 : lw_okq (⟨"MothCustomsModel", "dutyAll", "()I"⟩, 25) := ⟨⟨by decide +kernel, by decide +kernel⟩, List.mem_of_getElem? (i := 729) (by decide +kernel), List.mem_of_getElem? (i := 1051) (by decide +kernel), List.mem_of_getElem? (i := 1052) (by decide +kernel)⟩
theorem lw_p51 : lw_okq (⟨"MothCustomsModel", "allHoles", "()I"⟩, 25) := ⟨⟨by decide +kernel, by decide +kernel⟩, List.mem_of_getElem? (i := 729) (by decide +kernel), List.mem_of_getElem? (i := 1059) (by decide +kernel), List.mem_of_getElem? (i := 1060) (by decide +kernel)⟩
theorem lw_p52 : lw_okq (⟨"MothCustomsModel", "rows", "()I"⟩, 25) := ⟨⟨by decide +kernel, by decide +kernel⟩, List.mem_of_getElem? (i := 729) (by decide +kernel), List.mem_of_getElem? (i := 1080) (by decide +kernel), List.mem_of_getElem? (i := 1081) (by decide +kernel)⟩
theorem lw_p53 : lw_okq (⟨"MothCustomsModel", "isRow", "(I)Z"⟩, 25) := ⟨⟨by decide +kernel, by decide +kernel⟩, List.mem_of_getElem? (i := 729) (by decide +kernel), List.mem_of_getElem? (i := 1084) (by decide +kernel), List.mem_of_getElem? (i := 1085) (by decide +kernel)⟩
theorem lw_p54 : lw_okq (⟨"MothCustomsModel", "cutsAt", "(II)V"⟩, 25) := ⟨⟨by decide +kernel, by decide +kernel⟩, List.mem_of_getElem? (i := 729) (by decide +kernel), List.mem_of_getElem? (i := 1088) (by decide +kernel), List.mem_of_getElem? (i := 1089) (by decide +kernel)⟩
theorem lw_p55 : lw_okq (⟨"MothCustomsModel", "placesNow", "()I"⟩, 25) := ⟨⟨by decide +kernel, by decide +kernel⟩, List.mem_of_getElem? (i := 729) (by decide +kernel), List.mem_of_getElem? (i := 1092) (by decide +kernel), List.mem_of_getElem? (i := 1093) (by decide +kernel)⟩
theorem lw_p56 : lw_okq (⟨"MothCustomsModel", "dutyNext", "()I"⟩, 25) := ⟨⟨by decide +kernel, by decide +kernel⟩, List.mem_of_getElem? (i := 729) (by decide +kernel), List.mem_of_getElem? (i := 1096) (by decide +kernel), List.mem_of_getElem? (i := 1097) (by decide +kernel)⟩
theorem lw_p57 : lw_okq (⟨"MothCustomsModel", "placeIn", "(II)I"⟩, 25) := ⟨⟨by decide +kernel, by decide +kernel⟩, List.mem_of_getElem? (i := 729) (by decide +kernel), List.mem_of_getElem? (i := 1100) (by decide +kernel), List.mem_of_getElem? (i := 1101) (by decide +kernel)⟩
theorem lw_p58 : lw_okq (⟨"MothCustomsModel", "waysOf", "(II)J"⟩, 25) := ⟨⟨by decide +kernel, by decide +kernel⟩, List.mem_of_getElem? (i := 729) (by decide +kernel), List.mem_of_getElem? (i := 1121) (by decide +kernel), List.mem_of_getElem? (i := 1122) (by decide +kernel)⟩
theorem lw_p59 : lw_okq (⟨"MothCustomsModel", "allWays", "()J"⟩, 25) := ⟨⟨by decide +kernel, by decide +kernel⟩, List.mem_of_getElem? (i := 729) (by decide +kernel), List.mem_of_getElem? (i := 1125) (by decide +kernel), List.mem_of_getElem? (i := 1126) (by decide +kernel)⟩
theorem lw_p60 : lw_okq (⟨"MothCustomsModel", "isSo", "(I)Z"⟩, 25) := ⟨⟨by decide +kernel, by decide +kernel⟩, List.mem_of_getElem? (i := 729) (by decide +kernel), List.mem_of_getElem? (i := 1151) (by decide +kernel), List.mem_of_getElem? (i := 1152) (by decide +kernel)⟩
theorem lw_p61 : lw_okq (⟨"MothCustomsModel", "liesBy", "(I)V"⟩, 25) := ⟨⟨by decide +kernel, by decide +kernel⟩, List.mem_of_getElem? (i := 729) (by decide +kernel), List.mem_of_getElem? (i := 1167) (by decide +kernel), List.mem_of_getElem? (i := 1168) (by decide +kernel)⟩
theorem lw_p62 : lw_okq (⟨"MothCustomsModel", "copies", "(II)V"⟩, 25) := ⟨⟨by decide +kernel, by decide +kernel⟩, List.mem_of_getElem? (i := 729) (by decide +kernel), List.mem_of_getElem? (i := 1180) (by decide +kernel), List.mem_of_getElem? (i := 1181) (by decide +kernel)⟩
def lw_privs_4 : List (MethodName × Nat) := [(⟨"MothCustomsModel", "nightGoes", "(I)V"⟩, 25), (⟨"MothCustomsModel", "eatsNow", "(I)I"⟩, 25), (⟨"MothCustomsModel", "dutyAll", "()I"⟩, 25), (⟨"MothCustomsModel", "allHoles", "()I"⟩, 25), (⟨"MothCustomsModel", "rows", "()I"⟩, 25), (⟨"MothCustomsModel", "isRow", "(I)Z"⟩, 25), (⟨"MothCustomsModel", "cutsAt", "(II)V"⟩, 25), (⟨"MothCustomsModel", "placesNow", "()I"⟩, 25), (⟨"MothCustomsModel", "dutyNext", "()I"⟩, 25), (⟨"MothCustomsModel", "placeIn", "(II)I"⟩, 25), (⟨"MothCustomsModel", "waysOf", "(II)J"⟩, 25), (⟨"MothCustomsModel", "allWays", "()J"⟩, 25), (⟨"MothCustomsModel", "isSo", "(I)Z"⟩, 25), (⟨"MothCustomsModel", "liesBy", "(I)V"⟩, 25), (⟨"MothCustomsModel", "copies", "(II)V"⟩, 25)]
theorem lw_r4 : ∀ q ∈ lw_privs_4, lw_okq q := List.forall_mem_cons.mpr ⟨lw_p48, List.forall_mem_cons.mpr ⟨lw_p49, List.forall_mem_cons.mpr ⟨lw_p50, List.forall_mem_cons.mpr ⟨lw_p51, List.forall_mem_cons.mpr ⟨lw_p52, List.forall_mem_cons.mpr ⟨lw_p53, List.forall_mem_cons.mpr ⟨lw_p54, List.forall_mem_cons.mpr ⟨lw_p55, List.forall_mem_cons.mpr ⟨lw_p56, List.forall_mem_cons.mpr ⟨lw_p57, List.forall_mem_cons.mpr ⟨lw_p58, List.forall_mem_cons.mpr ⟨lw_p59, List.forall_mem_cons.mpr ⟨lw_p60, List.forall_mem_cons.mpr ⟨lw_p61, List.forall_mem_cons.mpr ⟨lw_p62, fun _ h => absurd h List.not_mem_nil⟩⟩⟩⟩⟩⟩⟩⟩⟩⟩⟩⟩⟩⟩⟩
def lw_privs : List (MethodName × Nat) := lw_privs_1 ++ (lw_privs_2 ++ (lw_privs_3 ++ (lw_privs_4)))
def lw_tbl : List Cond := k2_sels lw_privs ++ tables_1
theorem lw_privs_ok : ∀ q ∈ lw_privs, lw_okq q := by
  show ∀ q ∈ lw_privs_1 ++ (lw_privs_2 ++ (lw_privs_3 ++ (lw_privs_4))), lw_okq q
  exact List.forall_mem_append.mpr ⟨lw_r1, List.forall_mem_append.mpr ⟨lw_r2, List.forall_mem_append.mpr ⟨lw_r3, lw_r4⟩⟩⟩
end
section
def RX0 : String := "MothCustoms$Search"
def TX0 : u_T := fun k => match k with
  | 0 => ("MothCustoms$Search", "tried", "LMothCustoms$Shed;", true)
  | 1 => ("MothCustoms$Search", "codes", "[I", true)
  | 2 => ("MothCustoms$Search", "bestCodes", "[I", true)
  | 3 => ("MothCustoms$Search", "least", "I", false)
  | 4 => ("MothCustoms$Search", "taken", "I", false)
  | _ => ("MothCustoms$Search", "tops", "I", false)
def tyX0 : Nat → FieldType := fun k => match k with
  | 0 => .object "MothCustoms$Shed"
  | 1 => .array .int
  | 2 => .array .int
  | 3 => .int
  | 4 => .int
  | _ => .int
theorem nmX0 : ∀ a, a < 6 → ∀ b, b < 6 → a ≠ b → (TX0 a).2.1 ≠ (TX0 b).2.1 := by decide +kernel
theorem tyX0_ok : ∀ k, k < 6 → parseFieldDescriptor (TX0 k).2.2.1 = some (tyX0 k) := by decide +kernel
abbrev cX0_init : ByteArray := prog_2_method_1_code
def yX0_init : MethodName := ⟨RX0, "<init>", "()V"⟩
abbrev cX0_findBest : ByteArray := prog_2_method_2_code
def yX0_findBest : MethodName := ⟨RX0, "findBest", "(LMothCustoms$Shed;)V"⟩
abbrev cX0_placeFrom : ByteArray := prog_2_method_3_code
def yX0_placeFrom : MethodName := ⟨RX0, "placeFrom", "(LMothCustoms$Search;LMothCustoms$Shed;II)V"⟩
abbrev cX0_weighFolding : ByteArray := prog_2_method_4_code
def yX0_weighFolding : MethodName := ⟨RX0, "weighFolding", "(LMothCustoms$Search;LMothCustoms$Shed;)V"⟩
abbrev cX0_findTops : ByteArray := prog_2_method_5_code
def yX0_findTops : MethodName := ⟨RX0, "findTops", "(LMothCustoms$Shed;I)I"⟩
abbrev cX0_orderFrom : ByteArray := prog_2_method_6_code
def yX0_orderFrom : MethodName := ⟨RX0, "orderFrom", "(LMothCustoms$Search;LMothCustoms$Shed;II)V"⟩
abbrev cX0_exchange : ByteArray := prog_2_method_7_code
def yX0_exchange : MethodName := ⟨RX0, "exchange", "([III)V"⟩
def RX1 : String := "MothCustoms$Shed"
def TX1 : u_T := fun k => match k with
  | 0 => ("MothCustoms$Shed", "bolts", "I", false)
  | 1 => ("MothCustoms$Shed", "dye", "[I", true)
  | 2 => ("MothCustoms$Shed", "wool", "[I", true)
  | 3 => ("MothCustoms$Shed", "holes", "[I", true)
  | 4 => ("MothCustoms$Shed", "camphor", "I", false)
  | 5 => ("MothCustoms$Shed", "lying", "[I", true)
  | 6 => ("MothCustoms$Shed", "height", "[I", true)
  | 7 => ("MothCustoms$Shed", "moths", "I", false)
  | 8 => ("MothCustoms$Shed", "kind", "[I", true)
  | 9 => ("MothCustoms$Shed", "taste", "[I", true)
  | 10 => ("MothCustoms$Shed", "hunger", "[I", true)
  | 11 => ("MothCustoms$Shed", "at", "[I", true)
  | 12 => ("MothCustoms$Shed", "moon", "I", false)
  | 13 => ("MothCustoms$Shed", "rate", "I", false)
  | 14 => ("MothCustoms$Shed", "night", "I", false)
  | 15 => ("MothCustoms$Shed", "seen", "I", false)
  | 16 => ("MothCustoms$Shed", "seenBolt", "[I", true)
  | _ => ("MothCustoms$Shed", "seenHoles", "[I", true)
def tyX1 : Nat → FieldType := fun k => match k with
  | 0 => .int
  | 1 => .array .int
  | 2 => .array .int
  | 3 => .array .int
  | 4 => .int
  | 5 => .array .int
  | 6 => .array .int
  | 7 => .int
  | 8 => .array .int
  | 9 => .array .int
  | 10 => .array .int
  | 11 => .array .int
  | 12 => .int
  | 13 => .int
  | 14 => .int
  | 15 => .int
  | 16 => .array .int
  | _ => .array .int
theorem nmX1 : ∀ a, a < 18 → ∀ b, b < 18 → a ≠ b → (TX1 a).2.1 ≠ (TX1 b).2.1 := by decide +kernel
theorem tyX1_ok : ∀ k, k < 18 → parseFieldDescriptor (TX1 k).2.2.1 = some (tyX1 k) := by decide +kernel
abbrev cX1_init : ByteArray := prog_3_method_1_code
def yX1_init : MethodName := ⟨RX1, "<init>", "()V"⟩
abbrev cX1_makeEmpty : ByteArray := prog_3_method_2_code
def yX1_makeEmpty : MethodName := ⟨RX1, "makeEmpty", "()V"⟩
abbrev cX1_copyFrom : ByteArray := prog_3_method_3_code
def yX1_copyFrom : MethodName := ⟨RX1, "copyFrom", "(LMothCustoms$Shed;)V"⟩
abbrev cX1_copyHolesFrom : ByteArray := prog_3_method_4_code
def yX1_copyHolesFrom : MethodName := ⟨RX1, "copyHolesFrom", "(LMothCustoms$Shed;)V"⟩
abbrev cX1_copyLyingFrom : ByteArray := prog_3_method_5_code
def yX1_copyLyingFrom : MethodName := ⟨RX1, "copyLyingFrom", "(LMothCustoms$Shed;)V"⟩
abbrev cX1_hasBolt : ByteArray := prog_3_method_6_code
def yX1_hasBolt : MethodName := ⟨RX1, "hasBolt", "(I)Z"⟩
abbrev cX1_hasMoth : ByteArray := prog_3_method_7_code
def yX1_hasMoth : MethodName := ⟨RX1, "hasMoth", "(I)Z"⟩
abbrev cX1_hasCamphor : ByteArray := prog_3_method_8_code
def yX1_hasCamphor : MethodName := ⟨RX1, "hasCamphor", "(I)Z"⟩
abbrev cX1_addBolt : ByteArray := prog_3_method_9_code
def yX1_addBolt : MethodName := ⟨RX1, "addBolt", "(III)V"⟩
abbrev cX1_addMoth : ByteArray := prog_3_method_10_code
def yX1_addMoth : MethodName := ⟨RX1, "addMoth", "(IIII)V"⟩
abbrev cX1_spotOf : ByteArray := prog_3_method_11_code
def yX1_spotOf : MethodName := ⟨RX1, "spotOf", "(I)I"⟩
abbrev cX1_baleOf : ByteArray := prog_3_method_12_code
def yX1_baleOf : MethodName := ⟨RX1, "baleOf", "(I)I"⟩
abbrev cX1_layerOf : ByteArray := prog_3_method_13_code
def yX1_layerOf : MethodName := ⟨RX1, "layerOf", "(I)I"⟩
abbrev cX1_takeOut : ByteArray := prog_3_method_14_code
def yX1_takeOut : MethodName := ⟨RX1, "takeOut", "(I)V"⟩
abbrev cX1_putBelow : ByteArray := prog_3_method_15_code
def yX1_putBelow : MethodName := ⟨RX1, "putBelow", "(II)V"⟩
abbrev cX1_putOnTop : ByteArray := prog_3_method_16_code
def yX1_putOnTop : MethodName := ⟨RX1, "putOnTop", "(II)V"⟩
abbrev cX1_trait : ByteArray := prog_3_method_17_code
def yX1_trait : MethodName := ⟨RX1, "trait", "(II)I"⟩
abbrev cX1_setTrait : ByteArray := prog_3_method_18_code
def yX1_setTrait : MethodName := ⟨RX1, "setTrait", "(III)V"⟩
abbrev cX1_appetite : ByteArray := prog_3_method_19_code
def yX1_appetite : MethodName := ⟨RX1, "appetite", "(I)I"⟩
abbrev cX1_likes : ByteArray := prog_3_method_20_code
def yX1_likes : MethodName := ⟨RX1, "likes", "(II)Z"⟩
abbrev cX1_liked : ByteArray := prog_3_method_21_code
def yX1_liked : MethodName := ⟨RX1, "liked", "(I)I"⟩
abbrev cX1_passNight : ByteArray := prog_3_method_22_code
def yX1_passNight : MethodName := ⟨RX1, "passNight", "()V"⟩
abbrev cX1_letLoose : ByteArray := prog_3_method_23_code
def yX1_letLoose : MethodName := ⟨RX1, "letLoose", "(I)V"⟩
abbrev cX1_eatDown : ByteArray := prog_3_method_24_code
def yX1_eatDown : MethodName := ⟨RX1, "eatDown", "(I)V"⟩
abbrev cX1_dutyOf : ByteArray := prog_3_method_25_code
def yX1_dutyOf : MethodName := ⟨RX1, "dutyOf", "(I)I"⟩
abbrev cX1_dutyOfAll : ByteArray := prog_3_method_26_code
def yX1_dutyOfAll : MethodName := ⟨RX1, "dutyOfAll", "()I"⟩
abbrev cX1_holesInAll : ByteArray := prog_3_method_27_code
def yX1_holesInAll : MethodName := ⟨RX1, "holesInAll", "()I"⟩
abbrev cX1_isEatenUp : ByteArray := prog_3_method_28_code
def yX1_isEatenUp : MethodName := ⟨RX1, "isEatenUp", "(I)Z"⟩
abbrev cX1_eatenUp : ByteArray := prog_3_method_29_code
def yX1_eatenUp : MethodName := ⟨RX1, "eatenUp", "()I"⟩
abbrev cX1_isAsSeen : ByteArray := prog_3_method_30_code
def yX1_isAsSeen : MethodName := ⟨RX1, "isAsSeen", "(I)Z"⟩
def RX2 : String := "MothCustoms$Sheet"
def TX2 : u_T := fun k => match k with
  | 0 => ("MothCustoms$Sheet", "there", "Z", false)
  | 1 => ("MothCustoms$Sheet", "lane", "I", false)
  | 2 => ("MothCustoms$Sheet", "size", "I", false)
  | _ => ("MothCustoms$Sheet", "cells", "[I", true)
def tyX2 : Nat → FieldType := fun k => match k with
  | 0 => .boolean
  | 1 => .int
  | 2 => .int
  | _ => .array .int
theorem nmX2 : ∀ a, a < 4 → ∀ b, b < 4 → a ≠ b → (TX2 a).2.1 ≠ (TX2 b).2.1 := by decide +kernel
theorem tyX2_ok : ∀ k, k < 4 → parseFieldDescriptor (TX2 k).2.2.1 = some (tyX2 k) := by decide +kernel
abbrev cX2_init : ByteArray := prog_4_method_1_code
def yX2_init : MethodName := ⟨RX2, "<init>", "()V"⟩
abbrev cX2_makeNew : ByteArray := prog_4_method_2_code
def yX2_makeNew : MethodName := ⟨RX2, "makeNew", "(II)V"⟩
abbrev cX2_hasCell : ByteArray := prog_4_method_3_code
def yX2_hasCell : MethodName := ⟨RX2, "hasCell", "(I)Z"⟩
abbrev cX2_setCell : ByteArray := prog_4_method_4_code
def yX2_setCell : MethodName := ⟨RX2, "setCell", "(II)V"⟩
abbrev cX2_faultAs : ByteArray := prog_4_method_5_code
def yX2_faultAs : MethodName := ⟨RX2, "faultAs", "(I)I"⟩
abbrev cX2_wholePairs : ByteArray := prog_4_method_6_code
def yX2_wholePairs : MethodName := ⟨RX2, "wholePairs", "(II)I"⟩
def RX3 : String := "MothCustoms$Tape"
def TX3 : u_T := fun k => match k with
  | 0 => ("MothCustoms$Tape", "bytes", "[I", true)
  | 1 => ("MothCustoms$Tape", "length", "I", false)
  | 2 => ("MothCustoms$Tape", "fault", "I", false)
  | 3 => ("MothCustoms$Tape", "faultPlace", "I", false)
  | 4 => ("MothCustoms$Tape", "numbers", "[I", true)
  | 5 => ("MothCustoms$Tape", "place", "I", false)
  | 6 => ("MothCustoms$Tape", "token", "I", false)
  | 7 => ("MothCustoms$Tape", "start", "I", false)
  | 8 => ("MothCustoms$Tape", "value", "I", false)
  | 9 => ("MothCustoms$Tape", "moonTold", "Z", false)
  | _ => ("MothCustoms$Tape", "rateTold", "Z", false)
def tyX3 : Nat → FieldType := fun k => match k with
  | 0 => .array .int
  | 1 => .int
  | 2 => .int
  | 3 => .int
  | 4 => .array .int
  | 5 => .int
  | 6 => .int
  | 7 => .int
  | 8 => .int
  | 9 => .boolean
  | _ => .boolean
theorem nmX3 : ∀ a, a < 11 → ∀ b, b < 11 → a ≠ b → (TX3 a).2.1 ≠ (TX3 b).2.1 := by decide +kernel
theorem tyX3_ok : ∀ k, k < 11 → parseFieldDescriptor (TX3 k).2.2.1 = some (tyX3 k) := by decide +kernel
abbrev cX3_init : ByteArray := prog_5_method_1_code
def yX3_init : MethodName := ⟨RX3, "<init>", "()V"⟩
abbrev cX3_tellInto : ByteArray := prog_5_method_2_code
def yX3_tellInto : MethodName := ⟨RX3, "tellInto", "(LMothCustoms$Shed;)I"⟩
abbrev cX3_tellLine : ByteArray := prog_5_method_3_code
def yX3_tellLine : MethodName := ⟨RX3, "tellLine", "(LMothCustoms$Shed;)Z"⟩
abbrev cX3_readNumbers : ByteArray := prog_5_method_4_code
def yX3_readNumbers : MethodName := ⟨RX3, "readNumbers", "(ILMothCustoms$Shed;)Z"⟩
abbrev cX3_mostOfNumber : ByteArray := prog_5_method_5_code
def yX3_mostOfNumber : MethodName := ⟨RX3, "mostOfNumber", "(II)I"⟩
abbrev cX3_take : ByteArray := prog_5_method_6_code
def yX3_take : MethodName := ⟨RX3, "take", "(ILMothCustoms$Shed;)V"⟩
abbrev cX3_lineNamed : ByteArray := prog_5_method_7_code
def yX3_lineNamed : MethodName := ⟨RX3, "lineNamed", "()I"⟩
abbrev cX3_isName : ByteArray := prog_5_method_8_code
def yX3_isName : MethodName := ⟨RX3, "isName", "(Ljava/lang/String;)Z"⟩
abbrev cX3_nextToken : ByteArray := prog_5_method_9_code
def yX3_nextToken : MethodName := ⟨RX3, "nextToken", "()V"⟩
abbrev cX3_readName : ByteArray := prog_5_method_10_code
def yX3_readName : MethodName := ⟨RX3, "readName", "()V"⟩
abbrev cX3_readNumber : ByteArray := prog_5_method_11_code
def yX3_readNumber : MethodName := ⟨RX3, "readNumber", "()V"⟩
abbrev cX3_isLetter : ByteArray := prog_5_method_12_code
def yX3_isLetter : MethodName := ⟨RX3, "isLetter", "(I)Z"⟩
abbrev cX3_isFigure : ByteArray := prog_5_method_13_code
def yX3_isFigure : MethodName := ⟨RX3, "isFigure", "(I)Z"⟩
abbrev cX3_refuse : ByteArray := prog_5_method_14_code
def yX3_refuse : MethodName := ⟨RX3, "refuse", "(II)Z"⟩
def RX4 : String := "MothCustoms"
def TX4 : u_T := fun k => match k with
  | 0 => ("MothCustoms", "tape", "LMothCustoms$Tape;", true)
  | 1 => ("MothCustoms", "now", "LMothCustoms$Shed;", true)
  | 2 => ("MothCustoms", "trial", "LMothCustoms$Shed;", true)
  | 3 => ("MothCustoms", "images", "[LMothCustoms$Shed;", true)
  | 4 => ("MothCustoms", "sheets", "[LMothCustoms$Sheet;", true)
  | 5 => ("MothCustoms", "search", "LMothCustoms$Search;", true)
  | 6 => ("MothCustoms", "kept", "I", false)
  | _ => ("MothCustoms", "torn", "I", false)
def tyX4 : Nat → FieldType := fun k => match k with
  | 0 => .object "MothCustoms$Tape"
  | 1 => .object "MothCustoms$Shed"
  | 2 => .object "MothCustoms$Shed"
  | 3 => .array (.object "MothCustoms$Shed")
  | 4 => .array (.object "MothCustoms$Sheet")
  | 5 => .object "MothCustoms$Search"
  | 6 => .int
  | _ => .int
theorem nmX4 : ∀ a, a < 8 → ∀ b, b < 8 → a ≠ b → (TX4 a).2.1 ≠ (TX4 b).2.1 := by decide +kernel
theorem tyX4_ok : ∀ k, k < 8 → parseFieldDescriptor (TX4 k).2.2.1 = some (tyX4 k) := by decide +kernel
abbrev cX4_init : ByteArray := prog_1_method_1_code
def yX4_init : MethodName := ⟨RX4, "<init>", "()V"⟩
abbrev cX4_feed : ByteArray := prog_1_method_2_code
def yX4_feed : MethodName := ⟨RX4, "feed", "(I)I"⟩
abbrev cX4_end : ByteArray := prog_1_method_3_code
def yX4_end : MethodName := ⟨RX4, "end", "(I)I"⟩
abbrev cX4_text : ByteArray := prog_1_method_4_code
def yX4_text : MethodName := ⟨RX4, "text", "()I"⟩
abbrev cX4_fault : ByteArray := prog_1_method_5_code
def yX4_fault : MethodName := ⟨RX4, "fault", "()I"⟩
abbrev cX4_rule : ByteArray := prog_1_method_6_code
def yX4_rule : MethodName := ⟨RX4, "rule", "(I)I"⟩
abbrev cX4_bolt : ByteArray := prog_1_method_7_code
def yX4_bolt : MethodName := ⟨RX4, "bolt", "(II)I"⟩
abbrev cX4_moth : ByteArray := prog_1_method_8_code
def yX4_moth : MethodName := ⟨RX4, "moth", "(II)I"⟩
abbrev cX4_bale : ByteArray := prog_1_method_9_code
def yX4_bale : MethodName := ⟨RX4, "bale", "(II)I"⟩
abbrev cX4_fold : ByteArray := prog_1_method_10_code
def yX4_fold : MethodName := ⟨RX4, "fold", "(II)I"⟩
abbrev cX4_under : ByteArray := prog_1_method_11_code
def yX4_under : MethodName := ⟨RX4, "under", "(II)I"⟩
abbrev cX4_swap : ByteArray := prog_1_method_12_code
def yX4_swap : MethodName := ⟨RX4, "swap", "(II)I"⟩
abbrev cX4_camphor : ByteArray := prog_1_method_13_code
def yX4_camphor : MethodName := ⟨RX4, "camphor", "(IZ)I"⟩
abbrev cX4_patch : ByteArray := prog_1_method_14_code
def yX4_patch : MethodName := ⟨RX4, "patch", "(II)I"⟩
abbrev cX4_prick : ByteArray := prog_1_method_15_code
def yX4_prick : MethodName := ⟨RX4, "prick", "(I)I"⟩
abbrev cX4_alter : ByteArray := prog_1_method_16_code
def yX4_alter : MethodName := ⟨RX4, "alter", "(III)I"⟩
abbrev cX4_set : ByteArray := prog_1_method_17_code
def yX4_set : MethodName := ⟨RX4, "set", "(II)I"⟩
abbrev cX4_go : ByteArray := prog_1_method_18_code
def yX4_go : MethodName := ⟨RX4, "go", "(I)I"⟩
abbrev cX4_ahead : ByteArray := prog_1_method_19_code
def yX4_ahead : MethodName := ⟨RX4, "ahead", "(II)I"⟩
abbrev cX4_when : ByteArray := prog_1_method_20_code
def yX4_when : MethodName := ⟨RX4, "when", "(I)I"⟩
abbrev cX4_eats : ByteArray := prog_1_method_21_code
def yX4_eats : MethodName := ⟨RX4, "eats", "(I)I"⟩
abbrev cX4_duty : ByteArray := prog_1_method_22_code
def yX4_duty : MethodName := ⟨RX4, "duty", "(I)I"⟩
abbrev cX4_best : ByteArray := prog_1_method_23_code
def yX4_best : MethodName := ⟨RX4, "best", "(I)I"⟩
abbrev cX4_guard : ByteArray := prog_1_method_24_code
def yX4_guard : MethodName := ⟨RX4, "guard", "(I)I"⟩
abbrev cX4_send : ByteArray := prog_1_method_25_code
def yX4_send : MethodName := ⟨RX4, "send", "(II)I"⟩
abbrev cX4_raise : ByteArray := prog_1_method_26_code
def yX4_raise : MethodName := ⟨RX4, "raise", "(I)I"⟩
abbrev cX4_mean : ByteArray := prog_1_method_27_code
def yX4_mean : MethodName := ⟨RX4, "mean", "(II)J"⟩
abbrev cX4_luck : ByteArray := prog_1_method_28_code
def yX4_luck : MethodName := ⟨RX4, "luck", "(III)J"⟩
abbrev cX4_see : ByteArray := prog_1_method_29_code
def yX4_see : MethodName := ⟨RX4, "see", "(II)I"⟩
abbrev cX4_forget : ByteArray := prog_1_method_30_code
def yX4_forget : MethodName := ⟨RX4, "forget", "(I)I"⟩
abbrev cX4_tastes : ByteArray := prog_1_method_31_code
def yX4_tastes : MethodName := ⟨RX4, "tastes", "(I)I"⟩
abbrev cX4_bought : ByteArray := prog_1_method_32_code
def yX4_bought : MethodName := ⟨RX4, "bought", "()I"⟩
abbrev cX4_pricked : ByteArray := prog_1_method_33_code
def yX4_pricked : MethodName := ⟨RX4, "pricked", "(I)I"⟩
abbrev cX4_lain : ByteArray := prog_1_method_34_code
def yX4_lain : MethodName := ⟨RX4, "lain", "(I)I"⟩
abbrev cX4_drift : ByteArray := prog_1_method_35_code
def yX4_drift : MethodName := ⟨RX4, "drift", "(III)I"⟩
abbrev cX4_keep : ByteArray := prog_1_method_36_code
def yX4_keep : MethodName := ⟨RX4, "keep", "(I)I"⟩
abbrev cX4_back : ByteArray := prog_1_method_37_code
def yX4_back : MethodName := ⟨RX4, "back", "(I)I"⟩
abbrev cX4_sheet : ByteArray := prog_1_method_38_code
def yX4_sheet : MethodName := ⟨RX4, "sheet", "(III)I"⟩
abbrev cX4_lay : ByteArray := prog_1_method_39_code
def yX4_lay : MethodName := ⟨RX4, "lay", "(III)I"⟩
abbrev cX4_read : ByteArray := prog_1_method_40_code
def yX4_read : MethodName := ⟨RX4, "read", "(IIII)I"⟩
abbrev cX4_torn : ByteArray := prog_1_method_41_code
def yX4_torn : MethodName := ⟨RX4, "torn", "()I"⟩
abbrev cX4_count : ByteArray := prog_1_method_42_code
def yX4_count : MethodName := ⟨RX4, "count", "(I)I"⟩
abbrev cX4_within : ByteArray := prog_1_method_43_code
def yX4_within : MethodName := ⟨RX4, "within", "(III)Z"⟩
abbrev cX4_isBale : ByteArray := prog_1_method_44_code
def yX4_isBale : MethodName := ⟨RX4, "isBale", "(I)Z"⟩
abbrev cX4_isSheet : ByteArray := prog_1_method_45_code
def yX4_isSheet : MethodName := ⟨RX4, "isSheet", "(I)Z"⟩
abbrev cX4_isLane : ByteArray := prog_1_method_46_code
def yX4_isLane : MethodName := ⟨RX4, "isLane", "(I)Z"⟩
abbrev cX4_mostOfTrait : ByteArray := prog_1_method_47_code
def yX4_mostOfTrait : MethodName := ⟨RX4, "mostOfTrait", "(I)I"⟩
abbrev cX4_tryNight : ByteArray := prog_1_method_48_code
def yX4_tryNight : MethodName := ⟨RX4, "tryNight", "(I)V"⟩
abbrev cX4_leastBy : ByteArray := prog_1_method_49_code
def yX4_leastBy : MethodName := ⟨RX4, "leastBy", "(ZI)I"⟩
abbrev cX4_weight : ByteArray := prog_1_method_50_code
def yX4_weight : MethodName := ⟨RX4, "weight", "(II)J"⟩
abbrev cX4_partOfFraction : ByteArray := prog_1_method_51_code
def yX4_partOfFraction : MethodName := ⟨RX4, "partOfFraction", "(JI)J"⟩
abbrev cX4_commonDivisor : ByteArray := prog_1_method_52_code
def yX4_commonDivisor : MethodName := ⟨RX4, "commonDivisor", "(JJ)J"⟩
def RX5 : String := "MothCustomsModel"
def TX5 : u_T := fun k => match k with
  | 0 => ("MothCustomsModel", "st", "[I", true)
  | 1 => ("MothCustomsModel", "at", "[I", true)
  | 2 => ("MothCustomsModel", "isKept", "[Z", true)
  | 3 => ("MothCustomsModel", "bolts", "I", false)
  | 4 => ("MothCustomsModel", "moths", "I", false)
  | 5 => ("MothCustomsModel", "draft", "[I", true)
  | 6 => ("MothCustomsModel", "dBolts", "I", false)
  | 7 => ("MothCustomsModel", "dMoths", "I", false)
  | 8 => ("MothCustomsModel", "toldLines", "I", false)
  | 9 => ("MothCustomsModel", "toldCamphor", "I", false)
  | 10 => ("MothCustomsModel", "highest", "I", false)
  | 11 => ("MothCustomsModel", "tape", "[I", true)
  | 12 => ("MothCustomsModel", "taped", "I", false)
  | 13 => ("MothCustomsModel", "pos", "I", false)
  | 14 => ("MothCustomsModel", "from", "I", false)
  | 15 => ("MothCustomsModel", "sort", "I", false)
  | 16 => ("MothCustomsModel", "value", "I", false)
  | 17 => ("MothCustomsModel", "fault", "I", false)
  | 18 => ("MothCustomsModel", "wrongAt", "I", false)
  | 19 => ("MothCustomsModel", "row", "[I", true)
  | 20 => ("MothCustomsModel", "lanes", "[I", true)
  | 21 => ("MothCustomsModel", "sizes", "[I", true)
  | 22 => ("MothCustomsModel", "cells", "[I", true)
  | 23 => ("MothCustomsModel", "torn", "I", false)
  | _ => ("MothCustomsModel", "had", "[I", true)
def tyX5 : Nat → FieldType := fun k => match k with
  | 0 => .array .int
  | 1 => .array .int
  | 2 => .array .boolean
  | 3 => .int
  | 4 => .int
  | 5 => .array .int
  | 6 => .int
  | 7 => .int
  | 8 => .int
  | 9 => .int
  | 10 => .int
  | 11 => .array .int
  | 12 => .int
  | 13 => .int
  | 14 => .int
  | 15 => .int
  | 16 => .int
  | 17 => .int
  | 18 => .int
  | 19 => .array .int
  | 20 => .array .int
  | 21 => .array .int
  | 22 => .array .int
  | 23 => .int
  | _ => .array .int
theorem nmX5 : ∀ a, a < 25 → ∀ b, b < 25 → a ≠ b → (TX5 a).2.1 ≠ (TX5 b).2.1 := by decide +kernel
theorem tyX5_ok : ∀ k, k < 25 → parseFieldDescriptor (TX5 k).2.2.1 = some (tyX5 k) := by decide +kernel
abbrev cX5_init : ByteArray := prog_7_method_1_code
def yX5_init : MethodName := ⟨RX5, "<init>", "()V"⟩
abbrev cX5_in : ByteArray := prog_7_method_3_code
def yX5_in : MethodName := ⟨RX5, "in", "(JJJ)Z"⟩
abbrev cX5_flag : ByteArray := prog_7_method_4_code
def yX5_flag : MethodName := ⟨RX5, "flag", "(Z)I"⟩
abbrev cX5_firstDraft : ByteArray := prog_7_method_5_code
def yX5_firstDraft : MethodName := ⟨RX5, "firstDraft", "()V"⟩
abbrev cX5_keepDraft : ByteArray := prog_7_method_6_code
def yX5_keepDraft : MethodName := ⟨RX5, "keepDraft", "()V"⟩
abbrev cX5_feed : ByteArray := prog_7_method_7_code
def yX5_feed : MethodName := ⟨RX5, "feed", "(I)I"⟩
abbrev cX5_end : ByteArray := prog_7_method_8_code
def yX5_end : MethodName := ⟨RX5, "end", "(I)I"⟩
abbrev cX5_needs : ByteArray := prog_7_method_9_code
def yX5_needs : MethodName := ⟨RX5, "needs", "(ZI)V"⟩
abbrev cX5_byteAt : ByteArray := prog_7_method_10_code
def yX5_byteAt : MethodName := ⟨RX5, "byteAt", "(I)I"⟩
abbrev cX5_is : ByteArray := prog_7_method_11_code
def yX5_is : MethodName := ⟨RX5, "is", "(IIII)Z"⟩
abbrev cX5_ends : ByteArray := prog_7_method_12_code
def yX5_ends : MethodName := ⟨RX5, "ends", "(IIII)Z"⟩
abbrev cX5_lineNow : ByteArray := prog_7_method_13_code
def yX5_lineNow : MethodName := ⟨RX5, "lineNow", "()I"⟩
abbrev cX5_next : ByteArray := prog_7_method_14_code
def yX5_next : MethodName := ⟨RX5, "next", "()V"⟩
abbrev cX5_looked : ByteArray := prog_7_method_15_code
def yX5_looked : MethodName := ⟨RX5, "looked", "(II)I"⟩
abbrev cX5_readNumber : ByteArray := prog_7_method_16_code
def yX5_readNumber : MethodName := ⟨RX5, "readNumber", "(II)I"⟩
abbrev cX5_readBolt : ByteArray := prog_7_method_17_code
def yX5_readBolt : MethodName := ⟨RX5, "readBolt", "()V"⟩
abbrev cX5_readMoth : ByteArray := prog_7_method_18_code
def yX5_readMoth : MethodName := ⟨RX5, "readMoth", "(I)V"⟩
abbrev cX5_readCamphor : ByteArray := prog_7_method_19_code
def yX5_readCamphor : MethodName := ⟨RX5, "readCamphor", "()V"⟩
abbrev cX5_readLineOf : ByteArray := prog_7_method_20_code
def yX5_readLineOf : MethodName := ⟨RX5, "readLineOf", "(I)V"⟩
abbrev cX5_readLine : ByteArray := prog_7_method_21_code
def yX5_readLine : MethodName := ⟨RX5, "readLine", "()V"⟩
abbrev cX5_text : ByteArray := prog_7_method_22_code
def yX5_text : MethodName := ⟨RX5, "text", "()I"⟩
abbrev cX5_fault : ByteArray := prog_7_method_23_code
def yX5_fault : MethodName := ⟨RX5, "fault", "()I"⟩
abbrev cX5_isBolt : ByteArray := prog_7_method_24_code
def yX5_isBolt : MethodName := ⟨RX5, "isBolt", "(I)Z"⟩
abbrev cX5_isMoth : ByteArray := prog_7_method_25_code
def yX5_isMoth : MethodName := ⟨RX5, "isMoth", "(I)Z"⟩
abbrev cX5_isBale : ByteArray := prog_7_method_26_code
def yX5_isBale : MethodName := ⟨RX5, "isBale", "(I)Z"⟩
abbrev cX5_isPart : ByteArray := prog_7_method_27_code
def yX5_isPart : MethodName := ⟨RX5, "isPart", "(I)Z"⟩
abbrev cX5_starts : ByteArray := prog_7_method_28_code
def yX5_starts : MethodName := ⟨RX5, "starts", "()V"⟩
abbrev cX5_settles : ByteArray := prog_7_method_29_code
def yX5_settles : MethodName := ⟨RX5, "settles", "()V"⟩
abbrev cX5_of : ByteArray := prog_7_method_30_code
def yX5_of : MethodName := ⟨RX5, "of", "(II)I"⟩
abbrev cX5_becomesOf : ByteArray := prog_7_method_31_code
def yX5_becomesOf : MethodName := ⟨RX5, "becomesOf", "(III)V"⟩
abbrev cX5_mothOf : ByteArray := prog_7_method_32_code
def yX5_mothOf : MethodName := ⟨RX5, "mothOf", "(II)I"⟩
abbrev cX5_liesIn : ByteArray := prog_7_method_33_code
def yX5_liesIn : MethodName := ⟨RX5, "liesIn", "(I)I"⟩
abbrev cX5_boltAt : ByteArray := prog_7_method_34_code
def yX5_boltAt : MethodName := ⟨RX5, "boltAt", "(II)I"⟩
abbrev cX5_appetite : ByteArray := prog_7_method_35_code
def yX5_appetite : MethodName := ⟨RX5, "appetite", "(I)I"⟩
abbrev cX5_doesLike : ByteArray := prog_7_method_36_code
def yX5_doesLike : MethodName := ⟨RX5, "doesLike", "(II)Z"⟩
abbrev cX5_eatsNow : ByteArray := prog_7_method_37_code
def yX5_eatsNow : MethodName := ⟨RX5, "eatsNow", "(I)I"⟩
abbrev cX5_nightGoes : ByteArray := prog_7_method_38_code
def yX5_nightGoes : MethodName := ⟨RX5, "nightGoes", "(I)V"⟩
abbrev cX5_everyMoth : ByteArray := prog_7_method_39_code
def yX5_everyMoth : MethodName := ⟨RX5, "everyMoth", "()I"⟩
abbrev cX5_nightsGo : ByteArray := prog_7_method_40_code
def yX5_nightsGo : MethodName := ⟨RX5, "nightsGo", "(I)V"⟩
abbrev cX5_dutyOf : ByteArray := prog_7_method_41_code
def yX5_dutyOf : MethodName := ⟨RX5, "dutyOf", "(I)I"⟩
abbrev cX5_dutyAll : ByteArray := prog_7_method_42_code
def yX5_dutyAll : MethodName := ⟨RX5, "dutyAll", "()I"⟩
abbrev cX5_dutyNext : ByteArray := prog_7_method_43_code
def yX5_dutyNext : MethodName := ⟨RX5, "dutyNext", "()I"⟩
abbrev cX5_allHoles : ByteArray := prog_7_method_44_code
def yX5_allHoles : MethodName := ⟨RX5, "allHoles", "()I"⟩
abbrev cX5_isEaten : ByteArray := prog_7_method_45_code
def yX5_isEaten : MethodName := ⟨RX5, "isEaten", "(I)Z"⟩
abbrev cX5_eaten : ByteArray := prog_7_method_46_code
def yX5_eaten : MethodName := ⟨RX5, "eaten", "()I"⟩
abbrev cX5_rule : ByteArray := prog_7_method_47_code
def yX5_rule : MethodName := ⟨RX5, "rule", "(I)I"⟩
abbrev cX5_bolt : ByteArray := prog_7_method_48_code
def yX5_bolt : MethodName := ⟨RX5, "bolt", "(II)I"⟩
abbrev cX5_moth : ByteArray := prog_7_method_49_code
def yX5_moth : MethodName := ⟨RX5, "moth", "(II)I"⟩
abbrev cX5_bale : ByteArray := prog_7_method_50_code
def yX5_bale : MethodName := ⟨RX5, "bale", "(II)I"⟩
abbrev cX5_becomes : ByteArray := prog_7_method_51_code
def yX5_becomes : MethodName := ⟨RX5, "becomes", "(II)I"⟩
abbrev cX5_folds : ByteArray := prog_7_method_52_code
def yX5_folds : MethodName := ⟨RX5, "folds", "(IIZ)V"⟩
abbrev cX5_folded : ByteArray := prog_7_method_53_code
def yX5_folded : MethodName := ⟨RX5, "folded", "(IIZ)I"⟩
abbrev cX5_fold : ByteArray := prog_7_method_54_code
def yX5_fold : MethodName := ⟨RX5, "fold", "(II)I"⟩
abbrev cX5_under : ByteArray := prog_7_method_55_code
def yX5_under : MethodName := ⟨RX5, "under", "(II)I"⟩
abbrev cX5_swap : ByteArray := prog_7_method_56_code
def yX5_swap : MethodName := ⟨RX5, "swap", "(II)I"⟩
abbrev cX5_camphor : ByteArray := prog_7_method_57_code
def yX5_camphor : MethodName := ⟨RX5, "camphor", "(IZ)I"⟩
abbrev cX5_patch : ByteArray := prog_7_method_58_code
def yX5_patch : MethodName := ⟨RX5, "patch", "(II)I"⟩
abbrev cX5_prick : ByteArray := prog_7_method_59_code
def yX5_prick : MethodName := ⟨RX5, "prick", "(I)I"⟩
abbrev cX5_mostOf : ByteArray := prog_7_method_60_code
def yX5_mostOf : MethodName := ⟨RX5, "mostOf", "(I)I"⟩
abbrev cX5_alter : ByteArray := prog_7_method_61_code
def yX5_alter : MethodName := ⟨RX5, "alter", "(III)I"⟩
abbrev cX5_set : ByteArray := prog_7_method_62_code
def yX5_set : MethodName := ⟨RX5, "set", "(II)I"⟩
abbrev cX5_go : ByteArray := prog_7_method_63_code
def yX5_go : MethodName := ⟨RX5, "go", "(I)I"⟩
abbrev cX5_ahead : ByteArray := prog_7_method_64_code
def yX5_ahead : MethodName := ⟨RX5, "ahead", "(II)I"⟩
abbrev cX5_when : ByteArray := prog_7_method_65_code
def yX5_when : MethodName := ⟨RX5, "when", "(I)I"⟩
abbrev cX5_eats : ByteArray := prog_7_method_66_code
def yX5_eats : MethodName := ⟨RX5, "eats", "(I)I"⟩
abbrev cX5_duty : ByteArray := prog_7_method_67_code
def yX5_duty : MethodName := ⟨RX5, "duty", "(I)I"⟩
abbrev cX5_isRow : ByteArray := prog_7_method_68_code
def yX5_isRow : MethodName := ⟨RX5, "isRow", "(I)Z"⟩
abbrev cX5_rows : ByteArray := prog_7_method_69_code
def yX5_rows : MethodName := ⟨RX5, "rows", "()I"⟩
abbrev cX5_cutsAt : ByteArray := prog_7_method_70_code
def yX5_cutsAt : MethodName := ⟨RX5, "cutsAt", "(II)V"⟩
abbrev cX5_placesNow : ByteArray := prog_7_method_71_code
def yX5_placesNow : MethodName := ⟨RX5, "placesNow", "()I"⟩
abbrev cX5_placeIn : ByteArray := prog_7_method_72_code
def yX5_placeIn : MethodName := ⟨RX5, "placeIn", "(II)I"⟩
abbrev cX5_best : ByteArray := prog_7_method_73_code
def yX5_best : MethodName := ⟨RX5, "best", "(I)I"⟩
abbrev cX5_guard : ByteArray := prog_7_method_74_code
def yX5_guard : MethodName := ⟨RX5, "guard", "(I)I"⟩
abbrev cX5_send : ByteArray := prog_7_method_75_code
def yX5_send : MethodName := ⟨RX5, "send", "(II)I"⟩
abbrev cX5_raise : ByteArray := prog_7_method_76_code
def yX5_raise : MethodName := ⟨RX5, "raise", "(I)I"⟩
abbrev cX5_common : ByteArray := prog_7_method_77_code
def yX5_common : MethodName := ⟨RX5, "common", "(JJ)J"⟩
abbrev cX5_told : ByteArray := prog_7_method_78_code
def yX5_told : MethodName := ⟨RX5, "told", "(JJI)J"⟩
abbrev cX5_waysOf : ByteArray := prog_7_method_79_code
def yX5_waysOf : MethodName := ⟨RX5, "waysOf", "(II)J"⟩
abbrev cX5_allWays : ByteArray := prog_7_method_80_code
def yX5_allWays : MethodName := ⟨RX5, "allWays", "()J"⟩
abbrev cX5_mean : ByteArray := prog_7_method_81_code
def yX5_mean : MethodName := ⟨RX5, "mean", "(II)J"⟩
abbrev cX5_luck : ByteArray := prog_7_method_82_code
def yX5_luck : MethodName := ⟨RX5, "luck", "(III)J"⟩
abbrev cX5_see : ByteArray := prog_7_method_83_code
def yX5_see : MethodName := ⟨RX5, "see", "(II)I"⟩
abbrev cX5_forget : ByteArray := prog_7_method_84_code
def yX5_forget : MethodName := ⟨RX5, "forget", "(I)I"⟩
abbrev cX5_isSo : ByteArray := prog_7_method_85_code
def yX5_isSo : MethodName := ⟨RX5, "isSo", "(I)Z"⟩
abbrev cX5_tastes : ByteArray := prog_7_method_86_code
def yX5_tastes : MethodName := ⟨RX5, "tastes", "(I)I"⟩
abbrev cX5_bought : ByteArray := prog_7_method_87_code
def yX5_bought : MethodName := ⟨RX5, "bought", "()I"⟩
abbrev cX5_pricked : ByteArray := prog_7_method_88_code
def yX5_pricked : MethodName := ⟨RX5, "pricked", "(I)I"⟩
abbrev cX5_liesBy : ByteArray := prog_7_method_89_code
def yX5_liesBy : MethodName := ⟨RX5, "liesBy", "(I)V"⟩
abbrev cX5_lain : ByteArray := prog_7_method_90_code
def yX5_lain : MethodName := ⟨RX5, "lain", "(I)I"⟩
abbrev cX5_drift : ByteArray := prog_7_method_91_code
def yX5_drift : MethodName := ⟨RX5, "drift", "(III)I"⟩
abbrev cX5_copies : ByteArray := prog_7_method_92_code
def yX5_copies : MethodName := ⟨RX5, "copies", "(II)V"⟩
abbrev cX5_keep : ByteArray := prog_7_method_93_code
def yX5_keep : MethodName := ⟨RX5, "keep", "(I)I"⟩
abbrev cX5_back : ByteArray := prog_7_method_94_code
def yX5_back : MethodName := ⟨RX5, "back", "(I)I"⟩
abbrev cX5_isSheet : ByteArray := prog_7_method_95_code
def yX5_isSheet : MethodName := ⟨RX5, "isSheet", "(II)Z"⟩
abbrev cX5_sheet : ByteArray := prog_7_method_96_code
def yX5_sheet : MethodName := ⟨RX5, "sheet", "(III)I"⟩
abbrev cX5_lay : ByteArray := prog_7_method_97_code
def yX5_lay : MethodName := ⟨RX5, "lay", "(III)I"⟩
abbrev cX5_read : ByteArray := prog_7_method_98_code
def yX5_read : MethodName := ⟨RX5, "read", "(IIII)I"⟩
abbrev cX5_torn : ByteArray := prog_7_method_99_code
def yX5_torn : MethodName := ⟨RX5, "torn", "()I"⟩
abbrev cX5_count : ByteArray := prog_7_method_100_code
def yX5_count : MethodName := ⟨RX5, "count", "(I)I"⟩
def RJ6 : String := "java/lang/Integer"
def TJ6 : u_T := fun k => match k with
  | _ => ("", "", "", false)
def tyJ6 : Nat → FieldType := fun k => match k with
  | _ => .int
theorem nmJ6 : ∀ a, a < 0 → ∀ b, b < 0 → a ≠ b → (TJ6 a).2.1 ≠ (TJ6 b).2.1 := by decide +kernel
theorem tyJ6_ok : ∀ k, k < 0 → parseFieldDescriptor (TJ6 k).2.2.1 = some (tyJ6 k) := by decide +kernel
abbrev cJ6_bitCount_0f7a4 : ByteArray := prog_8_method_49_code
def yJ6_bitCount_0f7a4 : MethodName := ⟨RJ6, "bitCount", "(I)I"⟩
def RJ9 : String := "java/lang/Math"
def TJ9 : u_T := fun k => match k with
  | _ => ("", "", "", false)
def tyJ9 : Nat → FieldType := fun k => match k with
  | _ => .int
theorem nmJ9 : ∀ a, a < 0 → ∀ b, b < 0 → a ≠ b → (TJ9 a).2.1 ≠ (TJ9 b).2.1 := by decide +kernel
theorem tyJ9_ok : ∀ k, k < 0 → parseFieldDescriptor (TJ9 k).2.2.1 = some (tyJ9 k) := by decide +kernel
abbrev cJ9_max_7cf53 : ByteArray := prog_9_method_65_code
def yJ9_max_7cf53 : MethodName := ⟨RJ9, "max", "(II)I"⟩
abbrev cJ9_min_7cf53 : ByteArray := prog_9_method_69_code
def yJ9_min_7cf53 : MethodName := ⟨RJ9, "min", "(II)I"⟩
def RJ0 : String := "java/lang/String"
def TJ0 : u_T := fun k => match k with
  | _ => ("", "", "", false)
def tyJ0 : Nat → FieldType := fun k => match k with
  | _ => .int
theorem nmJ0 : ∀ a, a < 0 → ∀ b, b < 0 → a ≠ b → (TJ0 a).2.1 ≠ (TJ0 b).2.1 := by decide +kernel
theorem tyJ0_ok : ∀ k, k < 0 → parseFieldDescriptor (TJ0 k).2.2.1 = some (tyJ0 k) := by decide +kernel
abbrev cJ0_length_8abf5 : ByteArray := prog_10_method_54_code
def yJ0_length_8abf5 : MethodName := ⟨RJ0, "length", "()I"⟩
abbrev cJ0_charAt_5068e : ByteArray := prog_10_method_56_code
def yJ0_charAt_5068e : MethodName := ⟨RJ0, "charAt", "(I)C"⟩
abbrev cJ0_coder_7d493 : ByteArray := prog_10_method_152_code
def yJ0_coder_7d493 : MethodName := ⟨RJ0, "coder", "()B"⟩
abbrev cJ0_isLatin1_aae02 : ByteArray := prog_10_method_154_code
def yJ0_isLatin1_aae02 : MethodName := ⟨RJ0, "isLatin1", "()Z"⟩
abbrev cJ0_checkIndex_df160 : ByteArray := prog_10_method_155_code
def yJ0_checkIndex_df160 : MethodName := ⟨RJ0, "checkIndex", "(II)V"⟩
def RJ1 : String := "java/lang/StringLatin1"
def TJ1 : u_T := fun k => match k with
  | _ => ("", "", "", false)
def tyJ1 : Nat → FieldType := fun k => match k with
  | _ => .int
theorem nmJ1 : ∀ a, a < 0 → ∀ b, b < 0 → a ≠ b → (TJ1 a).2.1 ≠ (TJ1 b).2.1 := by decide +kernel
theorem tyJ1_ok : ∀ k, k < 0 → parseFieldDescriptor (TJ1 k).2.2.1 = some (tyJ1 k) := by decide +kernel
abbrev cJ1_charAt_3b067 : ByteArray := prog_11_method_2_code
def yJ1_charAt_3b067 : MethodName := ⟨RJ1, "charAt", "([BI)C"⟩
def RJ2 : String := "java/lang/StringUTF16"
def TJ2 : u_T := fun k => match k with
  | _ => ("", "", "", false)
def tyJ2 : Nat → FieldType := fun k => match k with
  | _ => .int
theorem nmJ2 : ∀ a, a < 0 → ∀ b, b < 0 → a ≠ b → (TJ2 a).2.1 ≠ (TJ2 b).2.1 := by decide +kernel
theorem tyJ2_ok : ∀ k, k < 0 → parseFieldDescriptor (TJ2 k).2.2.1 = some (tyJ2 k) := by decide +kernel
abbrev cJ2_getChar_3b067 : ByteArray := prog_12_method_5_code
def yJ2_getChar_3b067 : MethodName := ⟨RJ2, "getChar", "([BI)C"⟩
abbrev cJ2_length_9d52b : ByteArray := prog_12_method_6_code
def yJ2_length_9d52b : MethodName := ⟨RJ2, "length", "([B)I"⟩
abbrev cJ2_charAt_3b067 : ByteArray := prog_12_method_83_code
def yJ2_charAt_3b067 : MethodName := ⟨RJ2, "charAt", "([BI)C"⟩
abbrev cJ2_checkIndex_2214a : ByteArray := prog_12_method_91_code
def yJ2_checkIndex_2214a : MethodName := ⟨RJ2, "checkIndex", "(I[B)V"⟩
def RJ10 : String := "java/lang/System"
def TJ10 : u_T := fun k => match k with
  | _ => ("", "", "", false)
def tyJ10 : Nat → FieldType := fun k => match k with
  | _ => .int
theorem nmJ10 : ∀ a, a < 0 → ∀ b, b < 0 → a ≠ b → (TJ10 a).2.1 ≠ (TJ10 b).2.1 := by decide +kernel
theorem tyJ10_ok : ∀ k, k < 0 → parseFieldDescriptor (TJ10 k).2.2.1 = some (tyJ10 k) := by decide +kernel
def RJ3 : String := "jdk/internal/util/Preconditions"
def TJ3 : u_T := fun k => match k with
  | _ => ("", "", "", false)
def tyJ3 : Nat → FieldType := fun k => match k with
  | _ => .int
theorem nmJ3 : ∀ a, a < 0 → ∀ b, b < 0 → a ≠ b → (TJ3 a).2.1 ≠ (TJ3 b).2.1 := by decide +kernel
theorem tyJ3_ok : ∀ k, k < 0 → parseFieldDescriptor (TJ3 k).2.2.1 = some (tyJ3 k) := by decide +kernel
abbrev cJ3_checkIndex_8e157 : ByteArray := prog_14_method_11_code
def yJ3_checkIndex_8e157 : MethodName := ⟨RJ3, "checkIndex", "(IILjava/util/function/BiFunction;)I"⟩
def RL : String := "MothCustomsLaw"
abbrev cL_law : ByteArray := code
def yL_law : MethodName := ⟨RL, "law", "([I)Z"⟩
abbrev vwCl : List vw_C := [(RX0, TX0, 6), (RX1, TX1, 18), (RX2, TX2, 4), (RX3, TX3, 11), (RX4, TX4, 8), (RX5, TX5, 25)]
end
section
/-! J: a judgement of my own over the kit's W. 'J V E fin o pc L st X': from pc, with the locals L, the operand stack st and a heap that holds the world of the pure state X: if the pure answer o is (some of) the method's answer, the machine comes to its end with it. Rules take the machine's step and the pure program's head off together. -/
def jj_tb : List Cond := lw_tbl.filter goodWord
theorem jj_m {w : Cond} (h : w ∈ lw_tbl) (g : goodWord w = true) : w ∈ jj_tb := List.mem_filter.mpr ⟨h, g⟩
theorem jj_g1 {ws : List Cond} (h : ∀ w ∈ ws, w ∈ jj_tb) : GoodIn jj_tb ws := fun w q => ⟨h w q, good_of_word (List.mem_filter.mp (h w q)).2⟩
def jj_R (d : Nat) : Room := { frames := d, cells := 0, slots := 0, locals := 60 * d }
def jj_len : List Nat := [4, 5, 5, 7, 3, 7, 4, 4]
def jj_byt : List (List Int32) := [[98, 111, 108, 116], [112, 108, 97, 105, 110], [112, 105, 99, 107, 121], [103, 108, 117, 116, 116, 111, 110], [102, 97, 116], [99, 97, 109, 112, 104, 111, 114], [109, 111, 111, 110], [114, 97, 116, 101]]
def jj_six : List Nat := [111, 117, 119, 121, 123, 125, 126, 127]
def jj_stx : List String := ["bolt", "plain", "picky", "glutton", "fat", "camphor", "moon", "rate"]
/-- private members that a nest mate calls: caller, place, method, host -/
def jj_nest : List (String × Nat × MethodName × String) := [("MothCustoms", 11, ⟨"MothCustoms$Tape", "<init>", "()V"⟩, "MothCustoms"), ("MothCustoms", 18, ⟨"MothCustoms$Shed", "<init>", "()V"⟩, "MothCustoms"), ("MothCustoms", 36, ⟨"MothCustoms$Sheet", "<init>", "()V"⟩, "MothCustoms"), ("MothCustoms", 39, ⟨"MothCustoms$Search", "<init>", "()V"⟩, "MothCustoms"), ("MothCustoms$Search", 11, ⟨"MothCustoms$Shed", "<init>", "()V"⟩, "MothCustoms"), ("MothCustoms$Tape", 93, ⟨"MothCustoms", "mostOfTrait", "(I)I"⟩, "MothCustoms"), ("MothCustoms$Tape", 85, ⟨"MothCustoms", "within", "(III)Z"⟩, "MothCustoms"), ("MothCustoms$Shed", 80, ⟨"MothCustoms", "within", "(III)Z"⟩, "MothCustoms"), ("MothCustoms$Sheet", 26, ⟨"MothCustoms", "within", "(III)Z"⟩, "MothCustoms")]
/-- the String constants of the claim: cells K i, their bytes at Z i, none of them in A -/
def jj_St (K Z : Nat → Nat) (A : Nat → Prop) (U : State) (H : Heap) : Prop := vk_S 8 jj_len jj_byt K Z A U H ∧ (∀ i : Nat, i < 8 → vk_R RX3 (jj_six.getD i 0) (jj_stx.getD i "") (K i) U) ∧ (∀ q ∈ jj_nest, va_Nw (.methodLinkNest q.1 q.2.1 q.2.2.1 q.2.2.2) U) ∧ va_Z "java/lang/String" "COMPACT_STRINGS" "Z" (.int 1) A U H ∧ va_Zq "jdk/internal/util/Preconditions" "SIOOBE_FORMATTER" "Ljava/util/function/BiFunction;" A U H
/-- several ways to one place: the rest of the program by what differs -/
def jn {α β : Type} (body : (β → α) → α) (k : β → α) : α := body k
def lt {α β : Type} (e : α) (f : α → β) : β := f e
abbrev JV (σ : Type) : Type := va_G × List vw_C × List (ClassId × FieldType) × (σ → va_W) × (Nat → Nat) × (Nat → Nat)
abbrev JE (σ ρ : Type) : Type := Program × Launch × Env × Room × State × MethodId × Array Value × List Frame × Method × Code × Nat × (Nat → Prop) × (Array Value → State → Outcome → State → Prop) × (ρ × σ)
def J {σ ρ α : Type} (V : JV σ) (E : JE σ ρ) (fin : α → ρ × σ) (o : Option α) (pc : Nat) (L : List (Nat × Value)) (st : List Value) (X : σ) : Prop :=
  match E with
  | (p, l, e, R, s, m, args, below, meth, c, nL, A, Qc, res) => o.map fin = some res → ∀ (H : Heap) (locs : List Loc) (ls : Array Slot), va_P V.1 V.2.1 (V.2.2.2.1 X) H → va_D A (V.2.2.2.1 X) → va_S A s.heap H locs → lv_has ls nL L → W p l e R s m args below meth c H locs 0 0 (MQ below Qc args s 0 0 A) (F0 m pc ls st)
def JOk {σ ρ : Type} (V : JV σ) (E : JE σ ρ) (cc : ByteArray) (own : String) (n d : Nat) (ret : Option FieldType) (enc : ρ → Option Value) : Prop :=
  match E with
  | (p, _, _, R, s, m, args, _, meth, c, nL, A, Qc, res) => p.tables.exec = Jvm.exec ∧ c.code = cc ∧ (c.maxLocals = n ∧ nL = n) ∧ s.vm.findClass own = some m.cls ∧ (∀ w ∈ jj_tb, w.before args s = true) ∧ meth.locks = false ∧ meth.sig.returnType = ret ∧ R = jj_R d ∧ va_K V.1 V.2.1 V.2.2.1 s ∧ (∀ q : Nat, s.heap.size ≤ q → A q) ∧ jj_St V.2.2.2.2.1 V.2.2.2.2.2 A s s.heap ∧ (∀ t : State, va_P V.1 V.2.1 (V.2.2.2.1 res.2) t.heap → va_D A (V.2.2.2.1 res.2) → va_F A s t → s.WarmedH t.vm → Qc args s (.returned (enc res.1)) t)
/-- an instruction at its place, and the place behind it -/
def jd (cc : ByteArray) (pc : Nat) (i : Instr) (len pc' : Nat) : Prop := decode cc pc = .ok (i, len) ∧ pc + len = pc'
/-- a method's contract at one pure state: if the pure answer is there, the machine gives it -/
def JC {σ ρ : Type} (l : Launch) (V : JV σ) (y : MethodName) (cc : ByteArray) (n : Nat) (ret : Option FieldType) (enc : ρ → Option Value) (d : Nat) (av : List Value) (X : σ) (o : Option (ρ × σ)) : Prop :=
  ∀ res : ρ × σ, o = some res → ∀ sz : Nat, Met l y (.code y cc n ret :: jj_tb) (jj_R d)
    (va_Pc av (fun U => U.heap.size = sz ∧ va_P V.1 V.2.1 (V.2.2.2.1 X) U.heap ∧ va_K V.1 V.2.1 V.2.2.1 U ∧ va_D (fun _ => True) (V.2.2.2.1 X) ∧ jj_St V.2.2.2.2.1 V.2.2.2.2.2 (va_A (V.2.2.2.1 X) sz) U U.heap))
    (fun _ st oc t => (oc = .returned (enc res.1) ∧ va_P V.1 V.2.1 (V.2.2.2.1 res.2) t.heap ∧ va_K V.1 V.2.1 V.2.2.1 t ∧ va_D (va_A (V.2.2.2.1 X) sz) (V.2.2.2.1 res.2)) ∧ va_F (va_A (V.2.2.2.1 X) sz) st t)
    0 0 (va_A (V.2.2.2.1 X) sz)
theorem jj_of {σ ρ : Type} {l : Launch} {V : JV σ} {y : MethodName} {cc : ByteArray} {n : Nat} {ret : Option FieldType} {enc : ρ → Option Value} {d : Nat} {av : List Value} {X : σ} {α : Type} {fin : α → ρ × σ} {o : Option α} (hy : plainName y.cls = true) (hn : (lg_sl av).length ≤ n) (body : ∀ E : JE σ ρ, E.2.1 = l → JOk V E cc y.cls n d ret enc → J V E fin o 0 (lv_args 0 av) [] X) : JC l V y cc n ret enc d av X (o.map fin) := by
  intro res ho sz
  refine Met.ofW (cc := cc) (maxL := n) (ret := ret) hy rfl ?_
  intro p e s m args below meth c s₁ B hml hv
  obtain ⟨rfl, hsz, hP, hK, hD0, hSt⟩ := hv
  subst hsz
  have hts := atoms_spec (ws := .code y cc n ret :: jj_tb) B.pre
  have hD := hD0.self (sz := s.heap.size)
  have hl := lv_entry av hn
  rw [lg_entry_eq]
  exact body (p, l, e, jj_R d, s, m, av.toArray, below, meth, c, n, va_A (V.2.2.2.1 X) s.heap.size, _, res) rfl ⟨B.exec, B.bytes, ⟨hml, rfl⟩, findClass_of_methodNamed B.named, fun w hw => hts w (List.mem_cons_of_mem _ hw), B.notSynchronized, B.returns, rfl, hK, fun q h => Or.inr h, hSt, fun t a b c w => ⟨⟨rfl, a, va_K.moved w.alike hK, b⟩, c⟩⟩ ho _ _ _ hP hD va_S.rf hl
section JR
variable {σ ρ : Type} {V : JV σ} {E : JE σ ρ} {cc : ByteArray} {own : String} {n d : Nat} {ret : Option FieldType} {enc : ρ → Option Value} {α : Type} {fin : α → ρ × σ} {o : Option α} {pc pc' : Nat} {L L' : List (Nat × Value)} {st : List Value} {X : σ}

theorem J_none : J V E fin none pc L st X := by
  obtain ⟨p, l, e, R, s, m, args, below, meth, c, nL, A, Qc, res⟩ := E
  intro ho
  exact absurd ho (by simp)
theorem J_eq {o' : Option α} (h : o = o') (k : J V E fin o' pc L st X) : J V E fin o pc L st X := h ▸ k
theorem J_sub (ks : List Nat) (h : lv_pick L ks = L') (k : J V E fin o pc L' st X) : J V E fin o pc L st X := by
  obtain ⟨p, l, e, R, s, m, args, below, meth, c, nL, A, Qc, res⟩ := E
  intro ho H locs ls hP hD hS hl
  exact k ho H locs ls hP hD hS (lv_sub hl ks h)
theorem J_iconst (hE : JOk V E cc own n d ret enc) {z : Int} {v : Int32} (hd : jd cc pc (.iconst z) 1 pc') (hv : Int32.ofInt z = v) (k : J V E fin o pc' L (.int v :: st) X) : J V E fin o pc L (st) X := by
  obtain ⟨p, l, e, R, s, m, args, below, meth, c, nL, A, Qc, res⟩ := E
  obtain ⟨hx, hb, ⟨hml, hnL⟩, hown, hts, hlk, hrt, hR, hK, hA, hSt, hq⟩ := hE
  obtain ⟨hd, rfl⟩ := hd
  intro ho H locs ls hP hD hS hl
  exact lv_iconst hx hb hd hv (k ho H locs ls hP hD hS hl)
theorem J_bipush (hE : JOk V E cc own n d ret enc) {z : Int} {v : Int32} (hd : jd cc pc (.bipush z) 2 pc') (hv : (Int8.ofInt z).toInt32 = v) (k : J V E fin o pc' L (.int v :: st) X) : J V E fin o pc L (st) X := by
  obtain ⟨p, l, e, R, s, m, args, below, meth, c, nL, A, Qc, res⟩ := E
  obtain ⟨hx, hb, ⟨hml, hnL⟩, hown, hts, hlk, hrt, hR, hK, hA, hSt, hq⟩ := hE
  obtain ⟨hd, rfl⟩ := hd
  intro ho H locs ls hP hD hS hl
  exact lv_bipush hx hb hd hv (k ho H locs ls hP hD hS hl)
theorem J_sipush (hE : JOk V E cc own n d ret enc) {z : Int} {v : Int32} (hd : jd cc pc (.sipush z) 3 pc') (hv : (Int16.ofInt z).toInt32 = v) (k : J V E fin o pc' L (.int v :: st) X) : J V E fin o pc L (st) X := by
  obtain ⟨p, l, e, R, s, m, args, below, meth, c, nL, A, Qc, res⟩ := E
  obtain ⟨hx, hb, ⟨hml, hnL⟩, hown, hts, hlk, hrt, hR, hK, hA, hSt, hq⟩ := hE
  obtain ⟨hd, rfl⟩ := hd
  intro ho H locs ls hP hD hS hl
  exact lv_sipush hx hb hd hv (k ho H locs ls hP hD hS hl)
theorem J_lconst (hE : JOk V E cc own n d ret enc) {z : Fin 2} {v : Int64} (hd : jd cc pc (.lconst z) 1 pc') (hv : Int64.ofNat (z : Nat) = v) (k : J V E fin o pc' L (.long v :: st) X) : J V E fin o pc L (st) X := by
  obtain ⟨p, l, e, R, s, m, args, below, meth, c, nL, A, Qc, res⟩ := E
  obtain ⟨hx, hb, ⟨hml, hnL⟩, hown, hts, hlk, hrt, hR, hK, hA, hSt, hq⟩ := hE
  obtain ⟨hd, rfl⟩ := hd
  intro ho H locs ls hP hD hS hl
  exact lv_lconst hx hb hd hv (k ho H locs ls hP hD hS hl)
theorem J_ldc (hE : JOk V E cc own n d ret enc) {ix : Nat} {v : Int32} (hd : jd cc pc (.ldc ix) 2 pc') (hw : Cond.constant own ix v ∈ jj_tb) (k : J V E fin o pc' L (.int v :: st) X) : J V E fin o pc L (st) X := by
  obtain ⟨p, l, e, R, s, m, args, below, meth, c, nL, A, Qc, res⟩ := E
  obtain ⟨hx, hb, ⟨hml, hnL⟩, hown, hts, hlk, hrt, hR, hK, hA, hSt, hq⟩ := hE
  obtain ⟨hd, rfl⟩ := hd
  intro ho H locs ls hP hD hS hl
  exact lv_ldc hx hb hown (hts _ hw) hd (k ho H locs ls hP hD hS hl)
theorem J_ldcw (hE : JOk V E cc own n d ret enc) {ix : Nat} {v : Int32} (hd : jd cc pc (.ldc_w ix) 3 pc') (hw : Cond.constant own ix v ∈ jj_tb) (k : J V E fin o pc' L (.int v :: st) X) : J V E fin o pc L (st) X := by
  obtain ⟨p, l, e, R, s, m, args, below, meth, c, nL, A, Qc, res⟩ := E
  obtain ⟨hx, hb, ⟨hml, hnL⟩, hown, hts, hlk, hrt, hR, hK, hA, hSt, hq⟩ := hE
  obtain ⟨hd, rfl⟩ := hd
  intro ho H locs ls hP hD hS hl
  exact lv_ldcw hx hb hown (hts _ hw) hd (k ho H locs ls hP hD hS hl)
theorem J_ldc2 (hE : JOk V E cc own n d ret enc) {ix : Nat} {v : Int64} (hd : jd cc pc (.ldc2_w ix) 3 pc') (hw : Cond.constantLong own ix v ∈ jj_tb) (k : J V E fin o pc' L (.long v :: st) X) : J V E fin o pc L (st) X := by
  obtain ⟨p, l, e, R, s, m, args, below, meth, c, nL, A, Qc, res⟩ := E
  obtain ⟨hx, hb, ⟨hml, hnL⟩, hown, hts, hlk, hrt, hR, hK, hA, hSt, hq⟩ := hE
  obtain ⟨hd, rfl⟩ := hd
  intro ho H locs ls hP hD hS hl
  exact lv_ldc2 hx hb hown (hts _ hw) hd (k ho H locs ls hP hD hS hl)
theorem J_iload_n (hE : JOk V E cc own n d ret enc) {f : Fin 4} {i : Nat} {x : Int32} (hd : jd cc pc (.iload_n f) 1 pc') (j : Nat) (hi : (f : Nat) = i) (hk : L[j]? = some (i, .int x)) (k : J V E fin o pc' L (.int x :: st) X) : J V E fin o pc L (st) X := by
  obtain ⟨p, l, e, R, s, m, args, below, meth, c, nL, A, Qc, res⟩ := E
  obtain ⟨hx, hb, ⟨hml, hnL⟩, hown, hts, hlk, hrt, hR, hK, hA, hSt, hq⟩ := hE
  obtain ⟨hd, rfl⟩ := hd
  intro ho H locs ls hP hD hS hl
  exact lv_iload_n hx hb hd hi (lv_at hl j hk) (k ho H locs ls hP hD hS hl)
theorem J_iload (hE : JOk V E cc own n d ret enc) {i : Nat} {x : Int32} (hd : jd cc pc (.iload i) 2 pc') (j : Nat) (hk : L[j]? = some (i, .int x)) (k : J V E fin o pc' L (.int x :: st) X) : J V E fin o pc L (st) X := by
  obtain ⟨p, l, e, R, s, m, args, below, meth, c, nL, A, Qc, res⟩ := E
  obtain ⟨hx, hb, ⟨hml, hnL⟩, hown, hts, hlk, hrt, hR, hK, hA, hSt, hq⟩ := hE
  obtain ⟨hd, rfl⟩ := hd
  intro ho H locs ls hP hD hS hl
  exact lv_iload hx hb hd (lv_at hl j hk) (k ho H locs ls hP hD hS hl)
theorem J_istore_n (hE : JOk V E cc own n d ret enc) {f : Fin 4} {i : Nat} {x : Int32} (hd : jd cc pc (.istore_n f) 1 pc') (hn : i < n) (hi : (f : Nat) = i) (hL : (i, Value.int x) :: L.filter (fun q => !(q.1 == i) && !(q.1 + 1 == i && q.2.category == 2)) = L') (k : J V E fin o pc' L' st X) : J V E fin o pc L (.int x :: st) X := by
  obtain ⟨p, l, e, R, s, m, args, below, meth, c, nL, A, Qc, res⟩ := E
  obtain ⟨hx, hb, ⟨hml, hnL⟩, hown, hts, hlk, hrt, hR, hK, hA, hSt, hq⟩ := hE
  obtain ⟨hd, rfl⟩ := hd
  subst hnL
  intro ho H locs ls hP hD hS hl
  exact lv_istore_n hx hb hd hi hl hn hL (fun ls' hl' => k ho H locs ls' hP hD hS hl')
theorem J_istore (hE : JOk V E cc own n d ret enc) {i : Nat} {x : Int32} (hd : jd cc pc (.istore i) 2 pc') (hn : i < n) (hL : (i, Value.int x) :: L.filter (fun q => !(q.1 == i) && !(q.1 + 1 == i && q.2.category == 2)) = L') (k : J V E fin o pc' L' st X) : J V E fin o pc L (.int x :: st) X := by
  obtain ⟨p, l, e, R, s, m, args, below, meth, c, nL, A, Qc, res⟩ := E
  obtain ⟨hx, hb, ⟨hml, hnL⟩, hown, hts, hlk, hrt, hR, hK, hA, hSt, hq⟩ := hE
  obtain ⟨hd, rfl⟩ := hd
  subst hnL
  intro ho H locs ls hP hD hS hl
  exact lv_istore hx hb hd hl hn hL (fun ls' hl' => k ho H locs ls' hP hD hS hl')
theorem J_lload_n (hE : JOk V E cc own n d ret enc) {f : Fin 4} {i : Nat} {x : Int64} (hd : jd cc pc (.lload_n f) 1 pc') (j : Nat) (hi : (f : Nat) = i) (hk : L[j]? = some (i, .long x)) (k : J V E fin o pc' L (.long x :: st) X) : J V E fin o pc L (st) X := by
  obtain ⟨p, l, e, R, s, m, args, below, meth, c, nL, A, Qc, res⟩ := E
  obtain ⟨hx, hb, ⟨hml, hnL⟩, hown, hts, hlk, hrt, hR, hK, hA, hSt, hq⟩ := hE
  obtain ⟨hd, rfl⟩ := hd
  intro ho H locs ls hP hD hS hl
  exact lv_lload_n hx hb hd hi (lv_at hl j hk) (k ho H locs ls hP hD hS hl)
theorem J_lload (hE : JOk V E cc own n d ret enc) {i : Nat} {x : Int64} (hd : jd cc pc (.lload i) 2 pc') (j : Nat) (hk : L[j]? = some (i, .long x)) (k : J V E fin o pc' L (.long x :: st) X) : J V E fin o pc L (st) X := by
  obtain ⟨p, l, e, R, s, m, args, below, meth, c, nL, A, Qc, res⟩ := E
  obtain ⟨hx, hb, ⟨hml, hnL⟩, hown, hts, hlk, hrt, hR, hK, hA, hSt, hq⟩ := hE
  obtain ⟨hd, rfl⟩ := hd
  intro ho H locs ls hP hD hS hl
  exact lv_lload hx hb hd (lv_at hl j hk) (k ho H locs ls hP hD hS hl)
theorem J_lstore_n (hE : JOk V E cc own n d ret enc) {f : Fin 4} {i : Nat} {x : Int64} (hd : jd cc pc (.lstore_n f) 1 pc') (hn : i + 1 < n) (hi : (f : Nat) = i) (hL : (i, Value.long x) :: L.filter (fun q => !(q.1 == i) && (!(q.1 == i + 1) && !(q.1 + 1 == i && q.2.category == 2))) = L') (k : J V E fin o pc' L' st X) : J V E fin o pc L (.long x :: st) X := by
  obtain ⟨p, l, e, R, s, m, args, below, meth, c, nL, A, Qc, res⟩ := E
  obtain ⟨hx, hb, ⟨hml, hnL⟩, hown, hts, hlk, hrt, hR, hK, hA, hSt, hq⟩ := hE
  obtain ⟨hd, rfl⟩ := hd
  subst hnL
  intro ho H locs ls hP hD hS hl
  exact lv_lstore_n hx hb hd hi hl hn hL (fun ls' hl' => k ho H locs ls' hP hD hS hl')
theorem J_lstore (hE : JOk V E cc own n d ret enc) {i : Nat} {x : Int64} (hd : jd cc pc (.lstore i) 2 pc') (hn : i + 1 < n) (hL : (i, Value.long x) :: L.filter (fun q => !(q.1 == i) && (!(q.1 == i + 1) && !(q.1 + 1 == i && q.2.category == 2))) = L') (k : J V E fin o pc' L' st X) : J V E fin o pc L (.long x :: st) X := by
  obtain ⟨p, l, e, R, s, m, args, below, meth, c, nL, A, Qc, res⟩ := E
  obtain ⟨hx, hb, ⟨hml, hnL⟩, hown, hts, hlk, hrt, hR, hK, hA, hSt, hq⟩ := hE
  obtain ⟨hd, rfl⟩ := hd
  subst hnL
  intro ho H locs ls hP hD hS hl
  exact lv_lstore hx hb hd hl hn hL (fun ls' hl' => k ho H locs ls' hP hD hS hl')
theorem J_aload_n (hE : JOk V E cc own n d ret enc) {f : Fin 4} {i : Nat} {x : Nat} (hd : jd cc pc (.aload_n f) 1 pc') (j : Nat) (hi : (f : Nat) = i) (hk : L[j]? = some (i, .ref x)) (k : J V E fin o pc' L (.ref x :: st) X) : J V E fin o pc L (st) X := by
  obtain ⟨p, l, e, R, s, m, args, below, meth, c, nL, A, Qc, res⟩ := E
  obtain ⟨hx, hb, ⟨hml, hnL⟩, hown, hts, hlk, hrt, hR, hK, hA, hSt, hq⟩ := hE
  obtain ⟨hd, rfl⟩ := hd
  intro ho H locs ls hP hD hS hl
  exact lv_aload_n hx hb hd hi (lv_at hl j hk) (k ho H locs ls hP hD hS hl)
theorem J_aload (hE : JOk V E cc own n d ret enc) {i : Nat} {x : Nat} (hd : jd cc pc (.aload i) 2 pc') (j : Nat) (hk : L[j]? = some (i, .ref x)) (k : J V E fin o pc' L (.ref x :: st) X) : J V E fin o pc L (st) X := by
  obtain ⟨p, l, e, R, s, m, args, below, meth, c, nL, A, Qc, res⟩ := E
  obtain ⟨hx, hb, ⟨hml, hnL⟩, hown, hts, hlk, hrt, hR, hK, hA, hSt, hq⟩ := hE
  obtain ⟨hd, rfl⟩ := hd
  intro ho H locs ls hP hD hS hl
  exact lv_aload hx hb hd (lv_at hl j hk) (k ho H locs ls hP hD hS hl)
theorem J_astore_n (hE : JOk V E cc own n d ret enc) {f : Fin 4} {i : Nat} {x : Nat} (hd : jd cc pc (.astore_n f) 1 pc') (hn : i < n) (hi : (f : Nat) = i) (hL : (i, Value.ref x) :: L.filter (fun q => !(q.1 == i) && !(q.1 + 1 == i && q.2.category == 2)) = L') (k : J V E fin o pc' L' st X) : J V E fin o pc L (.ref x :: st) X := by
  obtain ⟨p, l, e, R, s, m, args, below, meth, c, nL, A, Qc, res⟩ := E
  obtain ⟨hx, hb, ⟨hml, hnL⟩, hown, hts, hlk, hrt, hR, hK, hA, hSt, hq⟩ := hE
  obtain ⟨hd, rfl⟩ := hd
  subst hnL
  intro ho H locs ls hP hD hS hl
  exact lv_astore_n hx hb hd hi hl hn hL (fun ls' hl' => k ho H locs ls' hP hD hS hl')
theorem J_astore (hE : JOk V E cc own n d ret enc) {i : Nat} {x : Nat} (hd : jd cc pc (.astore i) 2 pc') (hn : i < n) (hL : (i, Value.ref x) :: L.filter (fun q => !(q.1 == i) && !(q.1 + 1 == i && q.2.category == 2)) = L') (k : J V E fin o pc' L' st X) : J V E fin o pc L (.ref x :: st) X := by
  obtain ⟨p, l, e, R, s, m, args, below, meth, c, nL, A, Qc, res⟩ := E
  obtain ⟨hx, hb, ⟨hml, hnL⟩, hown, hts, hlk, hrt, hR, hK, hA, hSt, hq⟩ := hE
  obtain ⟨hd, rfl⟩ := hd
  subst hnL
  intro ho H locs ls hP hD hS hl
  exact lv_astore hx hb hd hl hn hL (fun ls' hl' => k ho H locs ls' hP hD hS hl')
theorem J_iinc (hE : JOk V E cc own n d ret enc) {i j : Nat} {z : Int} {x v : Int32} (hd : jd cc pc (.iinc i z) 3 pc') (hk : L[j]? = some (i, .int x)) (hv : x + Int32.ofInt z = v) (hn : i < n) (hL : (i, Value.int v) :: L.filter (fun q => !(q.1 == i) && !(q.1 + 1 == i && q.2.category == 2)) = L') (k : J V E fin o pc' L' st X) : J V E fin o pc L st X := by
  obtain ⟨p, l, e, R, s, m, args, below, meth, c, nL, A, Qc, res⟩ := E
  obtain ⟨hx, hb, ⟨hml, hnL⟩, hown, hts, hlk, hrt, hR, hK, hA, hSt, hq⟩ := hE
  obtain ⟨hd, rfl⟩ := hd
  subst hnL
  intro ho H locs ls hP hD hS hl
  exact lv_iinc hx hb hd hl hk hv hn hL (fun ls' hl' => k ho H locs ls' hP hD hS hl')
theorem J_iadd (hE : JOk V E cc own n d ret enc) {x y : Int32} (hd : jd cc pc .iadd 1 pc')  (k : J V E fin o pc' L (.int (x + y) :: st) X) : J V E fin o pc L (.int y :: .int x :: st) X := by
  obtain ⟨p, l, e, R, s, m, args, below, meth, c, nL, A, Qc, res⟩ := E
  obtain ⟨hx, hb, ⟨hml, hnL⟩, hown, hts, hlk, hrt, hR, hK, hA, hSt, hq⟩ := hE
  obtain ⟨hd, rfl⟩ := hd
  intro ho H locs ls hP hD hS hl
  exact lv_iadd hx hb hd (k ho H locs ls hP hD hS hl)
theorem J_isub (hE : JOk V E cc own n d ret enc) {x y : Int32} (hd : jd cc pc .isub 1 pc')  (k : J V E fin o pc' L (.int (x - y) :: st) X) : J V E fin o pc L (.int y :: .int x :: st) X := by
  obtain ⟨p, l, e, R, s, m, args, below, meth, c, nL, A, Qc, res⟩ := E
  obtain ⟨hx, hb, ⟨hml, hnL⟩, hown, hts, hlk, hrt, hR, hK, hA, hSt, hq⟩ := hE
  obtain ⟨hd, rfl⟩ := hd
  intro ho H locs ls hP hD hS hl
  exact lv_isub hx hb hd (k ho H locs ls hP hD hS hl)
theorem J_imul (hE : JOk V E cc own n d ret enc) {x y : Int32} (hd : jd cc pc .imul 1 pc')  (k : J V E fin o pc' L (.int (x * y) :: st) X) : J V E fin o pc L (.int y :: .int x :: st) X := by
  obtain ⟨p, l, e, R, s, m, args, below, meth, c, nL, A, Qc, res⟩ := E
  obtain ⟨hx, hb, ⟨hml, hnL⟩, hown, hts, hlk, hrt, hR, hK, hA, hSt, hq⟩ := hE
  obtain ⟨hd, rfl⟩ := hd
  intro ho H locs ls hP hD hS hl
  exact lv_imul hx hb hd (k ho H locs ls hP hD hS hl)
theorem J_iand (hE : JOk V E cc own n d ret enc) {x y : Int32} (hd : jd cc pc .iand 1 pc')  (k : J V E fin o pc' L (.int (x &&& y) :: st) X) : J V E fin o pc L (.int y :: .int x :: st) X := by
  obtain ⟨p, l, e, R, s, m, args, below, meth, c, nL, A, Qc, res⟩ := E
  obtain ⟨hx, hb, ⟨hml, hnL⟩, hown, hts, hlk, hrt, hR, hK, hA, hSt, hq⟩ := hE
  obtain ⟨hd, rfl⟩ := hd
  intro ho H locs ls hP hD hS hl
  exact lv_iand hx hb hd (k ho H locs ls hP hD hS hl)
theorem J_ior (hE : JOk V E cc own n d ret enc) {x y : Int32} (hd : jd cc pc .ior 1 pc')  (k : J V E fin o pc' L (.int (x ||| y) :: st) X) : J V E fin o pc L (.int y :: .int x :: st) X := by
  obtain ⟨p, l, e, R, s, m, args, below, meth, c, nL, A, Qc, res⟩ := E
  obtain ⟨hx, hb, ⟨hml, hnL⟩, hown, hts, hlk, hrt, hR, hK, hA, hSt, hq⟩ := hE
  obtain ⟨hd, rfl⟩ := hd
  intro ho H locs ls hP hD hS hl
  exact lv_ior hx hb hd (k ho H locs ls hP hD hS hl)
theorem J_ixor (hE : JOk V E cc own n d ret enc) {x y : Int32} (hd : jd cc pc .ixor 1 pc')  (k : J V E fin o pc' L (.int (x ^^^ y) :: st) X) : J V E fin o pc L (.int y :: .int x :: st) X := by
  obtain ⟨p, l, e, R, s, m, args, below, meth, c, nL, A, Qc, res⟩ := E
  obtain ⟨hx, hb, ⟨hml, hnL⟩, hown, hts, hlk, hrt, hR, hK, hA, hSt, hq⟩ := hE
  obtain ⟨hd, rfl⟩ := hd
  intro ho H locs ls hP hD hS hl
  exact lv_ixor hx hb hd (k ho H locs ls hP hD hS hl)
theorem J_ishl (hE : JOk V E cc own n d ret enc) {x y : Int32} (hd : jd cc pc .ishl 1 pc')  (k : J V E fin o pc' L (.int (x <<< (y &&& 31)) :: st) X) : J V E fin o pc L (.int y :: .int x :: st) X := by
  obtain ⟨p, l, e, R, s, m, args, below, meth, c, nL, A, Qc, res⟩ := E
  obtain ⟨hx, hb, ⟨hml, hnL⟩, hown, hts, hlk, hrt, hR, hK, hA, hSt, hq⟩ := hE
  obtain ⟨hd, rfl⟩ := hd
  intro ho H locs ls hP hD hS hl
  exact lv_ishl hx hb hd (k ho H locs ls hP hD hS hl)
theorem J_ishr (hE : JOk V E cc own n d ret enc) {x y : Int32} (hd : jd cc pc .ishr 1 pc')  (k : J V E fin o pc' L (.int (x >>> (y &&& 31)) :: st) X) : J V E fin o pc L (.int y :: .int x :: st) X := by
  obtain ⟨p, l, e, R, s, m, args, below, meth, c, nL, A, Qc, res⟩ := E
  obtain ⟨hx, hb, ⟨hml, hnL⟩, hown, hts, hlk, hrt, hR, hK, hA, hSt, hq⟩ := hE
  obtain ⟨hd, rfl⟩ := hd
  intro ho H locs ls hP hD hS hl
  exact lv_ishr hx hb hd (k ho H locs ls hP hD hS hl)
theorem J_iushr (hE : JOk V E cc own n d ret enc) {x y : Int32} (hd : jd cc pc .iushr 1 pc')  (k : J V E fin o pc' L (.int (x.toUInt32 >>> (y.toUInt32 &&& Int32.toUInt32 31)).toInt32 :: st) X) : J V E fin o pc L (.int y :: .int x :: st) X := by
  obtain ⟨p, l, e, R, s, m, args, below, meth, c, nL, A, Qc, res⟩ := E
  obtain ⟨hx, hb, ⟨hml, hnL⟩, hown, hts, hlk, hrt, hR, hK, hA, hSt, hq⟩ := hE
  obtain ⟨hd, rfl⟩ := hd
  intro ho H locs ls hP hD hS hl
  exact lv_iushr hx hb hd rfl (k ho H locs ls hP hD hS hl)
theorem J_ladd (hE : JOk V E cc own n d ret enc) {x y : Int64} (hd : jd cc pc .ladd 1 pc')  (k : J V E fin o pc' L (.long (x + y) :: st) X) : J V E fin o pc L (.long y :: .long x :: st) X := by
  obtain ⟨p, l, e, R, s, m, args, below, meth, c, nL, A, Qc, res⟩ := E
  obtain ⟨hx, hb, ⟨hml, hnL⟩, hown, hts, hlk, hrt, hR, hK, hA, hSt, hq⟩ := hE
  obtain ⟨hd, rfl⟩ := hd
  intro ho H locs ls hP hD hS hl
  exact lv_ladd hx hb hd (k ho H locs ls hP hD hS hl)
theorem J_lsub (hE : JOk V E cc own n d ret enc) {x y : Int64} (hd : jd cc pc .lsub 1 pc')  (k : J V E fin o pc' L (.long (x - y) :: st) X) : J V E fin o pc L (.long y :: .long x :: st) X := by
  obtain ⟨p, l, e, R, s, m, args, below, meth, c, nL, A, Qc, res⟩ := E
  obtain ⟨hx, hb, ⟨hml, hnL⟩, hown, hts, hlk, hrt, hR, hK, hA, hSt, hq⟩ := hE
  obtain ⟨hd, rfl⟩ := hd
  intro ho H locs ls hP hD hS hl
  exact lv_lsub hx hb hd (k ho H locs ls hP hD hS hl)
theorem J_lmul (hE : JOk V E cc own n d ret enc) {x y : Int64} (hd : jd cc pc .lmul 1 pc')  (k : J V E fin o pc' L (.long (x * y) :: st) X) : J V E fin o pc L (.long y :: .long x :: st) X := by
  obtain ⟨p, l, e, R, s, m, args, below, meth, c, nL, A, Qc, res⟩ := E
  obtain ⟨hx, hb, ⟨hml, hnL⟩, hown, hts, hlk, hrt, hR, hK, hA, hSt, hq⟩ := hE
  obtain ⟨hd, rfl⟩ := hd
  intro ho H locs ls hP hD hS hl
  exact lv_lmul hx hb hd (k ho H locs ls hP hD hS hl)
theorem J_i2l (hE : JOk V E cc own n d ret enc) {x : Int32} (hd : jd cc pc .i2l 1 pc')  (k : J V E fin o pc' L (.long x.toInt64 :: st) X) : J V E fin o pc L (.int x :: st) X := by
  obtain ⟨p, l, e, R, s, m, args, below, meth, c, nL, A, Qc, res⟩ := E
  obtain ⟨hx, hb, ⟨hml, hnL⟩, hown, hts, hlk, hrt, hR, hK, hA, hSt, hq⟩ := hE
  obtain ⟨hd, rfl⟩ := hd
  intro ho H locs ls hP hD hS hl
  exact lv_i2l hx hb hd rfl (k ho H locs ls hP hD hS hl)
theorem J_i2b (hE : JOk V E cc own n d ret enc) {x : Int32} (hd : jd cc pc .i2b 1 pc')  (k : J V E fin o pc' L (.int x.toInt8.toInt32 :: st) X) : J V E fin o pc L (.int x :: st) X := by
  obtain ⟨p, l, e, R, s, m, args, below, meth, c, nL, A, Qc, res⟩ := E
  obtain ⟨hx, hb, ⟨hml, hnL⟩, hown, hts, hlk, hrt, hR, hK, hA, hSt, hq⟩ := hE
  obtain ⟨hd, rfl⟩ := hd
  intro ho H locs ls hP hD hS hl
  exact lv_i2b hx hb hd rfl (k ho H locs ls hP hD hS hl)
theorem J_i2s (hE : JOk V E cc own n d ret enc) {x : Int32} (hd : jd cc pc .i2s 1 pc')  (k : J V E fin o pc' L (.int x.toInt16.toInt32 :: st) X) : J V E fin o pc L (.int x :: st) X := by
  obtain ⟨p, l, e, R, s, m, args, below, meth, c, nL, A, Qc, res⟩ := E
  obtain ⟨hx, hb, ⟨hml, hnL⟩, hown, hts, hlk, hrt, hR, hK, hA, hSt, hq⟩ := hE
  obtain ⟨hd, rfl⟩ := hd
  intro ho H locs ls hP hD hS hl
  exact lv_i2s hx hb hd rfl (k ho H locs ls hP hD hS hl)
theorem J_lcmp (hE : JOk V E cc own n d ret enc) {x y : Int64} (hd : jd cc pc .lcmp 1 pc')  (k : J V E fin o pc' L (.int (lg_cmp x y) :: st) X) : J V E fin o pc L (.long y :: .long x :: st) X := by
  obtain ⟨p, l, e, R, s, m, args, below, meth, c, nL, A, Qc, res⟩ := E
  obtain ⟨hx, hb, ⟨hml, hnL⟩, hown, hts, hlk, hrt, hR, hK, hA, hSt, hq⟩ := hE
  obtain ⟨hd, rfl⟩ := hd
  intro ho H locs ls hP hD hS hl
  exact W.lcmp hx hb hd (k ho H locs ls hP hD hS hl)
theorem J_dup (hE : JOk V E cc own n d ret enc) {v : Value} (hd : jd cc pc .dup 1 pc') (hc : v.category = 1) (k : J V E fin o pc' L (v :: v :: st) X) : J V E fin o pc L (v :: st) X := by
  obtain ⟨p, l, e, R, s, m, args, below, meth, c, nL, A, Qc, res⟩ := E
  obtain ⟨hx, hb, ⟨hml, hnL⟩, hown, hts, hlk, hrt, hR, hK, hA, hSt, hq⟩ := hE
  obtain ⟨hd, rfl⟩ := hd
  intro ho H locs ls hP hD hS hl
  exact lv_dup hx hb hd hc (k ho H locs ls hP hD hS hl)
theorem J_dup2 (hE : JOk V E cc own n d ret enc) {v w : Value} (hd : jd cc pc .dup2 1 pc') (hc : v.category = 1) (hc2 : w.category = 1) (k : J V E fin o pc' L (v :: w :: v :: w :: st) X) : J V E fin o pc L (v :: w :: st) X := by
  obtain ⟨p, l, e, R, s, m, args, below, meth, c, nL, A, Qc, res⟩ := E
  obtain ⟨hx, hb, ⟨hml, hnL⟩, hown, hts, hlk, hrt, hR, hK, hA, hSt, hq⟩ := hE
  obtain ⟨hd, rfl⟩ := hd
  intro ho H locs ls hP hD hS hl
  exact lv_dup2_11 hx hb hd hc hc2 (k ho H locs ls hP hD hS hl)
theorem J_dup_x1 (hE : JOk V E cc own n d ret enc) {v w : Value} (hd : jd cc pc .dup_x1 1 pc') (hc : v.category = 1) (hc2 : w.category = 1) (k : J V E fin o pc' L (v :: w :: v :: st) X) : J V E fin o pc L (v :: w :: st) X := by
  obtain ⟨p, l, e, R, s, m, args, below, meth, c, nL, A, Qc, res⟩ := E
  obtain ⟨hx, hb, ⟨hml, hnL⟩, hown, hts, hlk, hrt, hR, hK, hA, hSt, hq⟩ := hE
  obtain ⟨hd, rfl⟩ := hd
  intro ho H locs ls hP hD hS hl
  exact lv_dup_x1 hx hb hd hc hc2 (k ho H locs ls hP hD hS hl)
theorem J_pop (hE : JOk V E cc own n d ret enc) {v : Value} (hd : jd cc pc .pop 1 pc') (hc : v.category = 1) (k : J V E fin o pc' L (st) X) : J V E fin o pc L (v :: st) X := by
  obtain ⟨p, l, e, R, s, m, args, below, meth, c, nL, A, Qc, res⟩ := E
  obtain ⟨hx, hb, ⟨hml, hnL⟩, hown, hts, hlk, hrt, hR, hK, hA, hSt, hq⟩ := hE
  obtain ⟨hd, rfl⟩ := hd
  intro ho H locs ls hP hD hS hl
  exact lv_pop hx hb hd hc (k ho H locs ls hP hD hS hl)
theorem J_idiv (hE : JOk V E cc own n d ret enc) {x y : Int32} (hd : jd cc pc .idiv 1 pc') (k : ¬ y = 0 → J V E fin o pc' L (.int (x / y) :: st) X) : J V E fin (if y = 0 then none else o) pc L (.int y :: .int x :: st) X := by
  obtain ⟨p, l, e, R, s, m, args, below, meth, c, nL, A, Qc, res⟩ := E
  obtain ⟨hx, hb, ⟨hml, hnL⟩, hown, hts, hlk, hrt, hR, hK, hA, hSt, hq⟩ := hE
  obtain ⟨hd, rfl⟩ := hd
  intro ho H locs ls hP hD hS hl
  by_cases h : y = 0
  · rw [if_pos h] at ho
    exact absurd ho (by simp)
  · rw [if_neg h] at ho
    exact lv_idiv hx hb hd h (k h ho H locs ls hP hD hS hl)
theorem J_irem (hE : JOk V E cc own n d ret enc) {x y : Int32} (hd : jd cc pc .irem 1 pc') (k : ¬ y = 0 → J V E fin o pc' L (.int (x - x / y * y) :: st) X) : J V E fin (if y = 0 then none else o) pc L (.int y :: .int x :: st) X := by
  obtain ⟨p, l, e, R, s, m, args, below, meth, c, nL, A, Qc, res⟩ := E
  obtain ⟨hx, hb, ⟨hml, hnL⟩, hown, hts, hlk, hrt, hR, hK, hA, hSt, hq⟩ := hE
  obtain ⟨hd, rfl⟩ := hd
  intro ho H locs ls hP hD hS hl
  by_cases h : y = 0
  · rw [if_pos h] at ho
    exact absurd ho (by simp)
  · rw [if_neg h] at ho
    exact lv_irem hx hb hd h (k h ho H locs ls hP hD hS hl)
theorem J_ldiv (hE : JOk V E cc own n d ret enc) {x y : Int64} (hd : jd cc pc .ldiv 1 pc') (k : ¬ y = 0 → J V E fin o pc' L (.long (x / y) :: st) X) : J V E fin (if y = 0 then none else o) pc L (.long y :: .long x :: st) X := by
  obtain ⟨p, l, e, R, s, m, args, below, meth, c, nL, A, Qc, res⟩ := E
  obtain ⟨hx, hb, ⟨hml, hnL⟩, hown, hts, hlk, hrt, hR, hK, hA, hSt, hq⟩ := hE
  obtain ⟨hd, rfl⟩ := hd
  intro ho H locs ls hP hD hS hl
  by_cases h : y = 0
  · rw [if_pos h] at ho
    exact absurd ho (by simp)
  · rw [if_neg h] at ho
    exact lv_ldiv hx hb hd h (k h ho H locs ls hP hD hS hl)
theorem J_lrem (hE : JOk V E cc own n d ret enc) {x y : Int64} (hd : jd cc pc .lrem 1 pc') (k : ¬ y = 0 → J V E fin o pc' L (.long (x - x / y * y) :: st) X) : J V E fin (if y = 0 then none else o) pc L (.long y :: .long x :: st) X := by
  obtain ⟨p, l, e, R, s, m, args, below, meth, c, nL, A, Qc, res⟩ := E
  obtain ⟨hx, hb, ⟨hml, hnL⟩, hown, hts, hlk, hrt, hR, hK, hA, hSt, hq⟩ := hE
  obtain ⟨hd, rfl⟩ := hd
  intro ho H locs ls hP hD hS hl
  by_cases h : y = 0
  · rw [if_pos h] at ho
    exact absurd ho (by simp)
  · rw [if_neg h] at ho
    exact lv_lrem hx hb hd h (k h ho H locs ls hP hD hS hl)
theorem J_icmp_eq (hE : JOk V E cc own n d ret enc) {x y : Int32} {z : Int} {tgt : Nat} {ot of : Option α} (hd : jd cc pc (.if_icmp .eq z) 3 pc') (ht : (pc : Int) + z = (tgt : Int)) (kt : x = y → J V E fin ot tgt L st X) (kf : ¬ (x = y) → J V E fin of pc' L st X) : J V E fin (if x = y then ot else of) pc L (.int y :: .int x :: st) X := by
  obtain ⟨p, l, e, R, s, m, args, below, meth, c, nL, A, Qc, res⟩ := E
  obtain ⟨hx, hb, ⟨hml, hnL⟩, hown, hts, hlk, hrt, hR, hK, hA, hSt, hq⟩ := hE
  obtain ⟨hd, rfl⟩ := hd
  intro ho H locs ls hP hD hS hl
  exact lv_icmp_eq hx hb hd ht (fun q => kt q (by rw [if_pos q] at ho; exact ho) H locs ls hP hD hS hl) (fun q => kf q (by rw [if_neg q] at ho; exact ho) H locs ls hP hD hS hl)
theorem J_if_eq (hE : JOk V E cc own n d ret enc) {x : Int32} {z : Int} {tgt : Nat} {ot of : Option α} (hd : jd cc pc (.ifCond .eq z) 3 pc') (ht : (pc : Int) + z = (tgt : Int)) (kt : x = 0 → J V E fin ot tgt L st X) (kf : ¬ (x = 0) → J V E fin of pc' L st X) : J V E fin (if x = 0 then ot else of) pc L (.int x :: st) X := by
  obtain ⟨p, l, e, R, s, m, args, below, meth, c, nL, A, Qc, res⟩ := E
  obtain ⟨hx, hb, ⟨hml, hnL⟩, hown, hts, hlk, hrt, hR, hK, hA, hSt, hq⟩ := hE
  obtain ⟨hd, rfl⟩ := hd
  intro ho H locs ls hP hD hS hl
  exact lv_if_eq hx hb hd ht (fun q => kt q (by rw [if_pos q] at ho; exact ho) H locs ls hP hD hS hl) (fun q => kf q (by rw [if_neg q] at ho; exact ho) H locs ls hP hD hS hl)
theorem J_icmp_ne (hE : JOk V E cc own n d ret enc) {x y : Int32} {z : Int} {tgt : Nat} {ot of : Option α} (hd : jd cc pc (.if_icmp .ne z) 3 pc') (ht : (pc : Int) + z = (tgt : Int)) (kt : ¬ x = y → J V E fin ot tgt L st X) (kf : x = y → J V E fin of pc' L st X) : J V E fin (if x = y then of else ot) pc L (.int y :: .int x :: st) X := by
  obtain ⟨p, l, e, R, s, m, args, below, meth, c, nL, A, Qc, res⟩ := E
  obtain ⟨hx, hb, ⟨hml, hnL⟩, hown, hts, hlk, hrt, hR, hK, hA, hSt, hq⟩ := hE
  obtain ⟨hd, rfl⟩ := hd
  intro ho H locs ls hP hD hS hl
  exact lv_icmp_ne hx hb hd ht (fun q => kt q (by rw [if_neg q] at ho; exact ho) H locs ls hP hD hS hl) (fun q => kf q (by rw [if_pos q] at ho; exact ho) H locs ls hP hD hS hl)
theorem J_if_ne (hE : JOk V E cc own n d ret enc) {x : Int32} {z : Int} {tgt : Nat} {ot of : Option α} (hd : jd cc pc (.ifCond .ne z) 3 pc') (ht : (pc : Int) + z = (tgt : Int)) (kt : ¬ x = 0 → J V E fin ot tgt L st X) (kf : x = 0 → J V E fin of pc' L st X) : J V E fin (if x = 0 then of else ot) pc L (.int x :: st) X := by
  obtain ⟨p, l, e, R, s, m, args, below, meth, c, nL, A, Qc, res⟩ := E
  obtain ⟨hx, hb, ⟨hml, hnL⟩, hown, hts, hlk, hrt, hR, hK, hA, hSt, hq⟩ := hE
  obtain ⟨hd, rfl⟩ := hd
  intro ho H locs ls hP hD hS hl
  exact lv_if_ne hx hb hd ht (fun q => kt q (by rw [if_neg q] at ho; exact ho) H locs ls hP hD hS hl) (fun q => kf q (by rw [if_pos q] at ho; exact ho) H locs ls hP hD hS hl)
theorem J_icmp_lt (hE : JOk V E cc own n d ret enc) {x y : Int32} {z : Int} {tgt : Nat} {ot of : Option α} (hd : jd cc pc (.if_icmp .lt z) 3 pc') (ht : (pc : Int) + z = (tgt : Int)) (kt : x < y → J V E fin ot tgt L st X) (kf : ¬ (x < y) → J V E fin of pc' L st X) : J V E fin (if x < y then ot else of) pc L (.int y :: .int x :: st) X := by
  obtain ⟨p, l, e, R, s, m, args, below, meth, c, nL, A, Qc, res⟩ := E
  obtain ⟨hx, hb, ⟨hml, hnL⟩, hown, hts, hlk, hrt, hR, hK, hA, hSt, hq⟩ := hE
  obtain ⟨hd, rfl⟩ := hd
  intro ho H locs ls hP hD hS hl
  exact lv_icmp_lt hx hb hd ht (fun q => kt q (by rw [if_pos q] at ho; exact ho) H locs ls hP hD hS hl) (fun q => kf q (by rw [if_neg q] at ho; exact ho) H locs ls hP hD hS hl)
theorem J_if_lt (hE : JOk V E cc own n d ret enc) {x : Int32} {z : Int} {tgt : Nat} {ot of : Option α} (hd : jd cc pc (.ifCond .lt z) 3 pc') (ht : (pc : Int) + z = (tgt : Int)) (kt : x < 0 → J V E fin ot tgt L st X) (kf : ¬ (x < 0) → J V E fin of pc' L st X) : J V E fin (if x < 0 then ot else of) pc L (.int x :: st) X := by
  obtain ⟨p, l, e, R, s, m, args, below, meth, c, nL, A, Qc, res⟩ := E
  obtain ⟨hx, hb, ⟨hml, hnL⟩, hown, hts, hlk, hrt, hR, hK, hA, hSt, hq⟩ := hE
  obtain ⟨hd, rfl⟩ := hd
  intro ho H locs ls hP hD hS hl
  exact lv_if_lt hx hb hd ht (fun q => kt q (by rw [if_pos q] at ho; exact ho) H locs ls hP hD hS hl) (fun q => kf q (by rw [if_neg q] at ho; exact ho) H locs ls hP hD hS hl)
theorem J_icmp_ge (hE : JOk V E cc own n d ret enc) {x y : Int32} {z : Int} {tgt : Nat} {ot of : Option α} (hd : jd cc pc (.if_icmp .ge z) 3 pc') (ht : (pc : Int) + z = (tgt : Int)) (kt : y ≤ x → J V E fin ot tgt L st X) (kf : ¬ (y ≤ x) → J V E fin of pc' L st X) : J V E fin (if y ≤ x then ot else of) pc L (.int y :: .int x :: st) X := by
  obtain ⟨p, l, e, R, s, m, args, below, meth, c, nL, A, Qc, res⟩ := E
  obtain ⟨hx, hb, ⟨hml, hnL⟩, hown, hts, hlk, hrt, hR, hK, hA, hSt, hq⟩ := hE
  obtain ⟨hd, rfl⟩ := hd
  intro ho H locs ls hP hD hS hl
  exact lv_icmp_ge hx hb hd ht (fun q => kt q (by rw [if_pos q] at ho; exact ho) H locs ls hP hD hS hl) (fun q => kf q (by rw [if_neg q] at ho; exact ho) H locs ls hP hD hS hl)
theorem J_if_ge (hE : JOk V E cc own n d ret enc) {x : Int32} {z : Int} {tgt : Nat} {ot of : Option α} (hd : jd cc pc (.ifCond .ge z) 3 pc') (ht : (pc : Int) + z = (tgt : Int)) (kt : 0 ≤ x → J V E fin ot tgt L st X) (kf : ¬ (0 ≤ x) → J V E fin of pc' L st X) : J V E fin (if 0 ≤ x then ot else of) pc L (.int x :: st) X := by
  obtain ⟨p, l, e, R, s, m, args, below, meth, c, nL, A, Qc, res⟩ := E
  obtain ⟨hx, hb, ⟨hml, hnL⟩, hown, hts, hlk, hrt, hR, hK, hA, hSt, hq⟩ := hE
  obtain ⟨hd, rfl⟩ := hd
  intro ho H locs ls hP hD hS hl
  exact lv_if_ge hx hb hd ht (fun q => kt q (by rw [if_pos q] at ho; exact ho) H locs ls hP hD hS hl) (fun q => kf q (by rw [if_neg q] at ho; exact ho) H locs ls hP hD hS hl)
theorem J_icmp_gt (hE : JOk V E cc own n d ret enc) {x y : Int32} {z : Int} {tgt : Nat} {ot of : Option α} (hd : jd cc pc (.if_icmp .gt z) 3 pc') (ht : (pc : Int) + z = (tgt : Int)) (kt : y < x → J V E fin ot tgt L st X) (kf : ¬ (y < x) → J V E fin of pc' L st X) : J V E fin (if y < x then ot else of) pc L (.int y :: .int x :: st) X := by
  obtain ⟨p, l, e, R, s, m, args, below, meth, c, nL, A, Qc, res⟩ := E
  obtain ⟨hx, hb, ⟨hml, hnL⟩, hown, hts, hlk, hrt, hR, hK, hA, hSt, hq⟩ := hE
  obtain ⟨hd, rfl⟩ := hd
  intro ho H locs ls hP hD hS hl
  exact lv_icmp_gt hx hb hd ht (fun q => kt q (by rw [if_pos q] at ho; exact ho) H locs ls hP hD hS hl) (fun q => kf q (by rw [if_neg q] at ho; exact ho) H locs ls hP hD hS hl)
theorem J_if_gt (hE : JOk V E cc own n d ret enc) {x : Int32} {z : Int} {tgt : Nat} {ot of : Option α} (hd : jd cc pc (.ifCond .gt z) 3 pc') (ht : (pc : Int) + z = (tgt : Int)) (kt : 0 < x → J V E fin ot tgt L st X) (kf : ¬ (0 < x) → J V E fin of pc' L st X) : J V E fin (if 0 < x then ot else of) pc L (.int x :: st) X := by
  obtain ⟨p, l, e, R, s, m, args, below, meth, c, nL, A, Qc, res⟩ := E
  obtain ⟨hx, hb, ⟨hml, hnL⟩, hown, hts, hlk, hrt, hR, hK, hA, hSt, hq⟩ := hE
  obtain ⟨hd, rfl⟩ := hd
  intro ho H locs ls hP hD hS hl
  exact lv_if_gt hx hb hd ht (fun q => kt q (by rw [if_pos q] at ho; exact ho) H locs ls hP hD hS hl) (fun q => kf q (by rw [if_neg q] at ho; exact ho) H locs ls hP hD hS hl)
theorem J_icmp_le (hE : JOk V E cc own n d ret enc) {x y : Int32} {z : Int} {tgt : Nat} {ot of : Option α} (hd : jd cc pc (.if_icmp .le z) 3 pc') (ht : (pc : Int) + z = (tgt : Int)) (kt : x ≤ y → J V E fin ot tgt L st X) (kf : ¬ (x ≤ y) → J V E fin of pc' L st X) : J V E fin (if x ≤ y then ot else of) pc L (.int y :: .int x :: st) X := by
  obtain ⟨p, l, e, R, s, m, args, below, meth, c, nL, A, Qc, res⟩ := E
  obtain ⟨hx, hb, ⟨hml, hnL⟩, hown, hts, hlk, hrt, hR, hK, hA, hSt, hq⟩ := hE
  obtain ⟨hd, rfl⟩ := hd
  intro ho H locs ls hP hD hS hl
  exact lv_icmp_le hx hb hd ht (fun q => kt q (by rw [if_pos q] at ho; exact ho) H locs ls hP hD hS hl) (fun q => kf q (by rw [if_neg q] at ho; exact ho) H locs ls hP hD hS hl)
theorem J_if_le (hE : JOk V E cc own n d ret enc) {x : Int32} {z : Int} {tgt : Nat} {ot of : Option α} (hd : jd cc pc (.ifCond .le z) 3 pc') (ht : (pc : Int) + z = (tgt : Int)) (kt : x ≤ 0 → J V E fin ot tgt L st X) (kf : ¬ (x ≤ 0) → J V E fin of pc' L st X) : J V E fin (if x ≤ 0 then ot else of) pc L (.int x :: st) X := by
  obtain ⟨p, l, e, R, s, m, args, below, meth, c, nL, A, Qc, res⟩ := E
  obtain ⟨hx, hb, ⟨hml, hnL⟩, hown, hts, hlk, hrt, hR, hK, hA, hSt, hq⟩ := hE
  obtain ⟨hd, rfl⟩ := hd
  intro ho H locs ls hP hD hS hl
  exact lv_if_le hx hb hd ht (fun q => kt q (by rw [if_pos q] at ho; exact ho) H locs ls hP hD hS hl) (fun q => kf q (by rw [if_neg q] at ho; exact ho) H locs ls hP hD hS hl)
theorem J_goto (hE : JOk V E cc own n d ret enc) {z : Int} {tgt : Nat} (hd : jd cc pc (.goto z) 3 pc') (ht : (pc : Int) + z = (tgt : Int)) (k : J V E fin o tgt L st X) : J V E fin o pc L st X := by
  obtain ⟨p, l, e, R, s, m, args, below, meth, c, nL, A, Qc, res⟩ := E
  obtain ⟨hx, hb, ⟨hml, hnL⟩, hown, hts, hlk, hrt, hR, hK, hA, hSt, hq⟩ := hE
  obtain ⟨hd, rfl⟩ := hd
  intro ho H locs ls hP hD hS hl
  exact lv_goto hx hb hd ht (k ho H locs ls hP hD hS hl)
theorem J_tsIn (hE : JOk V E cc own n d ret enc) {dflt lo hi : Int} {offs : Array Int} {len : Nat} {x : Int32} {off : Int} {tgt : Nat} (hd : jd cc pc (.tableswitch dflt lo hi offs) len pc') (h1 : ¬ x.toInt < lo) (h2 : ¬ hi < x.toInt) (ho : offs[(x.toInt - lo).toNat]? = some off) (ht : (pc : Int) + off = (tgt : Int)) (k : J V E fin o tgt L st X) : J V E fin o pc L (.int x :: st) X := by
  obtain ⟨p, l, e, R, s, m, args, below, meth, c, nL, A, Qc, res⟩ := E
  obtain ⟨hx, hb, ⟨hml, hnL⟩, hown, hts, hlk, hrt, hR, hK, hA, hSt, hq⟩ := hE
  obtain ⟨hd, rfl⟩ := hd
  intro hoo H locs ls hP hD hS hl
  exact lv_tableIn hx hb hd h1 h2 ho ht (k hoo H locs ls hP hD hS hl)
theorem J_tsOut (hE : JOk V E cc own n d ret enc) {dflt lo hi : Int} {offs : Array Int} {len : Nat} {x : Int32} {tgt : Nat} (hd : jd cc pc (.tableswitch dflt lo hi offs) len pc') (h : x.toInt < lo ∨ hi < x.toInt) (ht : (pc : Int) + dflt = (tgt : Int)) (k : J V E fin o tgt L st X) : J V E fin o pc L (.int x :: st) X := by
  obtain ⟨p, l, e, R, s, m, args, below, meth, c, nL, A, Qc, res⟩ := E
  obtain ⟨hx, hb, ⟨hml, hnL⟩, hown, hts, hlk, hrt, hR, hK, hA, hSt, hq⟩ := hE
  obtain ⟨hd, rfl⟩ := hd
  intro hoo H locs ls hP hD hS hl
  exact lv_tableOut hx hb hd h ht (k hoo H locs ls hP hD hS hl)
theorem J_lsw (hE : JOk V E cc own n d ret enc) {dflt : Int} {ps : Array (Int × Int)} {len : Nat} {x : Int32} {off : Int} {tgt : Nat} (hd : jd cc pc (.lookupswitch dflt ps) len pc') (hp : (ps.toList.zip (ps.toList.drop 1)).all (fun (a, next) => a.1 < next.1) = true) (hof : Op.lookupswitch.offset ps.toList dflt x.toInt = off) (ht : (pc : Int) + off = (tgt : Int)) (k : J V E fin o tgt L st X) : J V E fin o pc L (.int x :: st) X := by
  obtain ⟨p, l, e, R, s, m, args, below, meth, c, nL, A, Qc, res⟩ := E
  obtain ⟨hx, hb, ⟨hml, hnL⟩, hown, hts, hlk, hrt, hR, hK, hA, hSt, hq⟩ := hE
  obtain ⟨hd, rfl⟩ := hd
  intro hoo H locs ls hP hD hS hl
  exact lv_lookup hx hb hd hp hof ht (k hoo H locs ls hP hD hS hl)
theorem J_iret (hE : JOk V E cc own n d (some .int) enc) {r : α} {v : Int32} (hd : jd cc pc .ireturn 1 pc') (hr : enc (fin r).1 = some (.int v)) (hX : (fin r).2 = X) : J V E fin (some r) pc L [.int v] X := by
  obtain ⟨p, l, e, R, s, m, args, below, meth, c, nL, A, Qc, res⟩ := E
  obtain ⟨hx, hb, ⟨hml, hnL⟩, hown, hts, hlk, hrt, hR, hK, hA, hSt, hq⟩ := hE
  obtain ⟨hd, rfl⟩ := hd
  intro ho H locs ls hP hD hS hl
  have hr0 : fin r = res := Option.some.inj ho
  subst hr0
  subst hX
  exact W.iret hx hb hrt (fun t ht hW => by rw [← hr]; exact hq t (by rw [ht]; exact hP) hD (hS.F ht) hW) hS.2.2 hd hlk
theorem J_zret (hE : JOk V E cc own n d (some .boolean) enc) {r : α} {v : Int32} (hz : v = 0 ∨ v = 1) (hd : jd cc pc .ireturn 1 pc') (hr : enc (fin r).1 = some (.int v)) (hX : (fin r).2 = X) : J V E fin (some r) pc L [.int v] X := by
  obtain ⟨p, l, e, R, s, m, args, below, meth, c, nL, A, Qc, res⟩ := E
  obtain ⟨hx, hb, ⟨hml, hnL⟩, hown, hts, hlk, hrt, hR, hK, hA, hSt, hq⟩ := hE
  obtain ⟨hd, rfl⟩ := hd
  intro ho H locs ls hP hD hS hl
  have hr0 : fin r = res := Option.some.inj ho
  subst hr0
  subst hX
  exact W.zret hx hb hrt (by rcases hz with rfl | rfl <;> rfl) (fun t ht hW => by rw [← hr]; exact hq t (by rw [ht]; exact hP) hD (hS.F ht) hW) hS.2.2 hd hlk
theorem J_lret (hE : JOk V E cc own n d (some .long) enc) {r : α} {v : Int64} (hd : jd cc pc .lreturn 1 pc') (hr : enc (fin r).1 = some (.long v)) (hX : (fin r).2 = X) : J V E fin (some r) pc L [.long v] X := by
  obtain ⟨p, l, e, R, s, m, args, below, meth, c, nL, A, Qc, res⟩ := E
  obtain ⟨hx, hb, ⟨hml, hnL⟩, hown, hts, hlk, hrt, hR, hK, hA, hSt, hq⟩ := hE
  obtain ⟨hd, rfl⟩ := hd
  intro ho H locs ls hP hD hS hl
  have hr0 : fin r = res := Option.some.inj ho
  subst hr0
  subst hX
  exact W.lret hx hb hrt (fun t ht hW => by rw [← hr]; exact hq t (by rw [ht]; exact hP) hD (hS.F ht) hW) hS.2.2 hd hlk
theorem J_vret (hE : JOk V E cc own n d none enc) {r : α} (hd : jd cc pc .return_ 1 pc') (hr : enc (fin r).1 = none) (hX : (fin r).2 = X) : J V E fin (some r) pc L [] X := by
  obtain ⟨p, l, e, R, s, m, args, below, meth, c, nL, A, Qc, res⟩ := E
  obtain ⟨hx, hb, ⟨hml, hnL⟩, hown, hts, hlk, hrt, hR, hK, hA, hSt, hq⟩ := hE
  obtain ⟨hd, rfl⟩ := hd
  intro ho H locs ls hP hD hS hl
  have hr0 : fin r = res := Option.some.inj ho
  subst hr0
  subst hX
  exact W.vret hx hb hrt (fun t ht hW => by rw [← hr]; exact hq t (by rw [ht]; exact hP) hD (hS.F ht) hW) hS.2.2 hd hlk
theorem J_ite {c : Prop} {dc : Decidable c} {o1 o2 : Option α} (h1 : c → J V E fin o1 pc L st X) (h2 : ¬ c → J V E fin o2 pc L st X) : J V E fin (@ite _ c dc o1 o2) pc L st X := by
  by_cases h : c
  · rw [if_pos h]; exact h1 h
  · rw [if_neg h]; exact h2 h
theorem J_tsAt (hE : JOk V E cc own n d ret enc) {dflt lo hi : Int} {offs : Array Int} {len : Nat} {x v : Int32} {off : Int} {tgt : Nat} (hv : x = v) (hd : jd cc pc (.tableswitch dflt lo hi offs) len pc') (h1 : ¬ v.toInt < lo) (h2 : ¬ hi < v.toInt) (ho : offs[(v.toInt - lo).toNat]? = some off) (ht : (pc : Int) + off = (tgt : Int)) (k : J V E fin o tgt L st X) : J V E fin o pc L (.int x :: st) X := J_tsIn hE hd (by rw [hv]; exact h1) (by rw [hv]; exact h2) (by rw [hv]; exact ho) ht k
theorem J_lsAt (hE : JOk V E cc own n d ret enc) {dflt : Int} {ps : Array (Int × Int)} {len : Nat} {x v : Int32} {off : Int} {tgt : Nat} (hv : x = v) (hd : jd cc pc (.lookupswitch dflt ps) len pc') (hp : (ps.toList.zip (ps.toList.drop 1)).all (fun (a, next) => a.1 < next.1) = true) (hof : Op.lookupswitch.offset ps.toList dflt v.toInt = off) (ht : (pc : Int) + off = (tgt : Int)) (k : J V E fin o tgt L st X) : J V E fin o pc L (.int x :: st) X := J_lsw hE hd hp (by rw [hv]; exact hof) ht k
/-- a name for a value or a state: the pure program names it too -/
theorem J_letS {f : σ → Option α} {e : σ} (k : ∀ x, J V E fin (f x) pc L st x) : J V E fin (lt e f) pc L st e := k e
theorem J_leti {f : Int32 → Option α} {e : Int32} (k : ∀ x, J V E fin (f x) pc L (.int x :: st) X) : J V E fin (lt e f) pc L (.int e :: st) X := k e
theorem J_letl {f : Int64 → Option α} {e : Int64} (k : ∀ x, J V E fin (f x) pc L (.long x :: st) X) : J V E fin (lt e f) pc L (.long e :: st) X := k e
theorem J_iincL (hE : JOk V E cc own n d ret enc) {i j : Nat} {z : Int} {x v : Int32} {Lf : Int32 → List (Nat × Value)} {f : Int32 → Option α} (hd : jd cc pc (.iinc i z) 3 pc') (hk : L[j]? = some (i, .int x)) (hv : x + Int32.ofInt z = v) (hn : i < n) (hL : ∀ v : Int32, (i, Value.int v) :: L.filter (fun q => !(q.1 == i) && !(q.1 + 1 == i && q.2.category == 2)) = Lf v) (k : ∀ v : Int32, J V E fin (f v) pc' (Lf v) st X) : J V E fin (lt v f) pc L st X := J_iinc hE hd hk hv hn (hL v) (k v)
theorem J_jn {β : Type} {body : (β → Option α) → Option α} {kk : β → Option α} {m : Nat} {Lf : β → List (Nat × Value)} {sf : β → List Value} {Xf : β → σ} (h1 : ∀ v, J V E fin (kk v) m (Lf v) (sf v) (Xf v)) (h2 : (∀ v, J V E fin (kk v) m (Lf v) (sf v) (Xf v)) → J V E fin (body kk) pc L st X) : J V E fin (jn body kk) pc L st X := h2 h1
end JR
end
section
/-! Views: where the pure state lies in the heap; rules for fields, arrays, calls. -/
abbrev M2 : Type := Nat → Nat → Int32
/-- out of bounds: no answer -/
def bnd {α : Type} (i : Int32) (n : Nat) (o : Option α) : Option α := if i < 0 ∨ n ≤ i.toNatClampNeg then none else o
/-- a world seen through a part of the state -/
def jj_sub {σ τ : Type} (V : JV σ) (e : τ → σ) : JV τ := (V.1, V.2.1, V.2.2.1, fun t => V.2.2.2.1 (e t), V.2.2.2.2.1, V.2.2.2.2.2)
def jO {σ : Type} (V : JV σ) (X : σ) (a : Nat) (r : vw_C) (fs : List Value) : Prop := ∃ q ci : Nat, V.2.1[ci]? = some r ∧ (V.2.2.2.1 X)[q]? = some (a, .inr (ci, fs))
def jA {σ : Type} (V : JV σ) (X : σ) (a n : Nat) (ty : FieldType) (f : Nat → Int32) : Prop := ∃ (q t : Nat) (cA : ClassId), V.2.2.1[t]? = some (cA, ty) ∧ (V.2.2.2.1 X)[q]? = some (a, .inl (cA, n, .inl f))
def jQ {σ : Type} (V : JV σ) (X : σ) (a n : Nat) (C : String) (f : Nat → Option Nat) : Prop := ∃ (q t : Nat) (cA : ClassId), V.2.2.1[t]? = some (cA, .object C) ∧ (V.2.2.2.1 X)[q]? = some (a, .inl (cA, n, .inr (.inr (.inr (.inr f)))))
/-- an object and its arrays, at o and a k, hold the part get X; put writes it. sc: its numbers; ar: its arrays, with length and type -/
def vOb {σ : Type} (V : JV σ) (get : σ → M2) (put : σ → M2 → σ) (o : Nat) (a : Nat → Nat) (r : vw_C) (fs : (Nat → Nat) → M2 → List Value) (sc : List Nat) (ar : List (Nat × Nat × FieldType)) : Prop :=
  (∃ q ci : Nat, V.2.1[ci]? = some r ∧ ∀ X : σ, (V.2.2.2.1 X)[q]? = some (o, .inr (ci, fs a (get X))) ∧ ∀ k ∈ sc, ∀ v : Int32, (V.2.2.2.1 X).set q (o, .inr (ci, (fs a (get X)).set k (.int v))) = V.2.2.2.1 (put X (va_up (get X) k (fun _ => v)))) ∧
  ∀ x ∈ ar, ∃ (q t : Nat) (cA : ClassId), V.2.2.1[t]? = some (cA, x.2.2) ∧ ∀ X : σ, (V.2.2.2.1 X)[q]? = some (a x.1, .inl (cA, x.2.1, .inl (get X x.1))) ∧ ∀ f : Nat → Int32, (V.2.2.2.1 X).set q (a x.1, .inl (cA, x.2.1, .inl f)) = V.2.2.2.1 (put X (va_up (get X) x.1 f))
/-- the same, only to be read: it holds N whatever X is -/
def rOb {σ : Type} (V : JV σ) (o : Nat) (a : Nat → Nat) (r : vw_C) (fs : (Nat → Nat) → M2 → List Value) (ar : List (Nat × Nat × FieldType)) (N : M2) : Prop :=
  (∃ q ci : Nat, V.2.1[ci]? = some r ∧ ∀ X : σ, (V.2.2.2.1 X)[q]? = some (o, .inr (ci, fs a N))) ∧
  ∀ x ∈ ar, ∃ (q t : Nat) (cA : ClassId), V.2.2.1[t]? = some (cA, x.2.2) ∧ ∀ X : σ, (V.2.2.2.1 X)[q]? = some (a x.1, .inl (cA, x.2.1, .inl (N x.1)))
theorem jw_native : (Cond.native arraycopyName : Cond) ∈ jj_tb := jj_m (List.mem_of_getElem? (i := 443) (by decide +kernel)) rfl
theorem jw_nstat : (Cond.static arraycopyName : Cond) ∈ jj_tb := jj_m (List.mem_of_getElem? (i := 442) (by decide +kernel)) rfl
theorem jw_nini : (Cond.initialized "java/lang/System" : Cond) ∈ jj_tb := jj_m (List.mem_of_getElem? (i := 74) (by decide +kernel)) rfl
theorem jw_math : (Cond.initialized "java/lang/Math" : Cond) ∈ jj_tb := jj_m (List.mem_of_getElem? (i := 75) (by decide +kernel)) rfl
theorem jw_minS : (Cond.static Lib.Math.min.name : Cond) ∈ jj_tb := jj_m (List.mem_of_getElem? (i := 529) (by decide +kernel)) rfl
theorem jw_maxS : (Cond.static Lib.Math.max.name : Cond) ∈ jj_tb := jj_m (List.mem_of_getElem? (i := 503) (by decide +kernel)) rfl
theorem jw_minC : (Cond.code Lib.Math.min.name Lib.Math.min.code 2 (some .int) : Cond) ∈ jj_tb := jj_m (List.mem_of_getElem? (i := 530) (by decide +kernel)) rfl
theorem jw_maxC : (Cond.code Lib.Math.max.name Lib.Math.max.code 2 (some .int) : Cond) ∈ jj_tb := jj_m (List.mem_of_getElem? (i := 504) (by decide +kernel)) rfl
section VW
variable {σ τ : Type} {V : JV σ} {get : σ → M2} {put : σ → M2 → σ} {o : Nat} {a : Nat → Nat} {r : vw_C} {fs : (Nat → Nat) → M2 → List Value} {sc : List Nat} {ar : List (Nat × Nat × FieldType)} {N : M2}
theorem vOb.ob (h : vOb V get put o a r fs sc ar) (X : σ) : jO V X o r (fs a (get X)) := by
  obtain ⟨⟨q, ci, h1, h2⟩, -⟩ := h
  exact ⟨q, ci, h1, (h2 X).1⟩
theorem vOb.arr (h : vOb V get put o a r fs sc ar) (k : Nat) {n : Nat} {ty : FieldType} (hk : (k, n, ty) ∈ ar) (X : σ) : jA V X (a k) n ty (get X k) := by
  obtain ⟨q, t, cA, h1, h2⟩ := h.2 _ hk
  exact ⟨q, t, cA, h1, (h2 X).1⟩
theorem rOb.ob (h : rOb V o a r fs ar N) (X : σ) : jO V X o r (fs a N) := by
  obtain ⟨⟨q, ci, h1, h2⟩, -⟩ := h
  exact ⟨q, ci, h1, h2 X⟩
theorem rOb.arr (h : rOb V o a r fs ar N) (k : Nat) {n : Nat} {ty : FieldType} (hk : (k, n, ty) ∈ ar) (X : σ) : jA V X (a k) n ty (N k) := by
  obtain ⟨q, t, cA, h1, h2⟩ := h.2 _ hk
  exact ⟨q, t, cA, h1, h2 X⟩
/-- a view through a part of the state -/
theorem vOb.sub {e : τ → σ} {get' : τ → M2} {put' : τ → M2 → τ} (h : vOb V get put o a r fs sc ar) (hg : ∀ t, get (e t) = get' t) (hp : ∀ t S, put (e t) S = e (put' t S)) : vOb (jj_sub V e) get' put' o a r fs sc ar := by
  obtain ⟨⟨q, ci, h1, h2⟩, h3⟩ := h
  refine ⟨⟨q, ci, h1, fun t => ⟨?_, fun k hk v => ?_⟩⟩, fun x hx => ?_⟩
  · rw [← hg t]; exact (h2 (e t)).1
  · have z := (h2 (e t)).2 k hk v
    rw [hp, hg] at z
    exact z
  · obtain ⟨q, t0, cA, g1, g2⟩ := h3 x hx
    refine ⟨q, t0, cA, g1, fun t => ⟨?_, fun f => ?_⟩⟩
    · rw [← hg t]; exact (g2 (e t)).1
    · have z := (g2 (e t)).2 f
      rw [hp, hg] at z
      exact z
theorem vOb.read {e : τ → σ} (h : vOb V get put o a r fs sc ar) (hg : ∀ t, get (e t) = N) : rOb (jj_sub V e) o a r fs ar N := by
  obtain ⟨⟨q, ci, h1, h2⟩, h3⟩ := h
  refine ⟨⟨q, ci, h1, fun t => ?_⟩, fun x hx => ?_⟩
  · rw [← hg t]; exact (h2 (e t)).1
  · obtain ⟨q, t0, cA, g1, g2⟩ := h3 x hx
    exact ⟨q, t0, cA, g1, fun t => by rw [← hg t]; exact (g2 (e t)).1⟩
theorem rOb.sub {e : τ → σ} (h : rOb V o a r fs ar N) : rOb (jj_sub V e) o a r fs ar N := by
  obtain ⟨⟨q, ci, h1, h2⟩, h3⟩ := h
  refine ⟨⟨q, ci, h1, fun t => h2 (e t)⟩, fun x hx => ?_⟩
  obtain ⟨q, t0, cA, g1, g2⟩ := h3 x hx
  exact ⟨q, t0, cA, g1, fun t => g2 (e t)⟩
end VW
/-- a class's words, its fields' types, its names apart -/
def jcl (r : vw_C) (ty : Nat → FieldType) : Prop := (∀ w ∈ u_ws r.1 r.2.1 r.2.2, w ∈ jj_tb) ∧ (∀ k, k < r.2.2 → parseFieldDescriptor (r.2.1 k).2.2.1 = some (ty k)) ∧ ∀ a, a < r.2.2 → ∀ b, b < r.2.2 → a ≠ b → (r.2.1 a).2.1 ≠ (r.2.1 b).2.1
/-- a method's words -/
def jmS (y : MethodName) (cc : ByteArray) (n : Nat) (ret : Option FieldType) (k : Nat) : Prop := Cond.code y cc n ret ∈ jj_tb ∧ Cond.initialized y.cls ∈ jj_tb ∧ (y.cls ≠ "java/lang/invoke/MethodHandle" ∧ y.cls ≠ "java/lang/invoke/VarHandle") ∧ (parseMethodDescriptor y.desc).map (fun d => d.parameters.length) = some k
def jmV (y : MethodName) (cc : ByteArray) (n : Nat) (ret : Option FieldType) (k : Nat) : Prop := jmS y cc n ret k ∧ Cond.instanceMethod y ∈ jj_tb ∧ Cond.selects y.cls y y ∈ jj_tb
def jj_i (r : Int32) : Option Value := some (.int r)
def jj_l (r : Int64) : Option Value := some (.long r)
def jj_v (_ : Unit) : Option Value := none
theorem JC.lift {σ τ ρ : Type} {l : Launch} {V : JV σ} {e : τ → σ} {y : MethodName} {cc : ByteArray} {n : Nat} {ret : Option FieldType} {enc : ρ → Option Value} {d : Nat} {av : List Value} {t : τ} {o : Option (ρ × τ)} (h : JC l (jj_sub V e) y cc n ret enc d av t o) : JC l V y cc n ret enc d av (e t) (o.map (fun q => (q.1, e q.2))) := by
  intro res ho sz
  cases o with
  | none => cases ho
  | some q =>
    cases ho
    exact h q rfl sz
section JV
variable {σ ρ : Type} {V : JV σ} {E : JE σ ρ} {cc : ByteArray} {own : String} {n d : Nat} {ret : Option FieldType} {enc : ρ → Option Value} {α : Type} {fin : α → ρ × σ} {o : Option α} {pc pc' : Nat} {L L' : List (Nat × Value)} {st : List Value} {X : σ}
theorem J_get (hE : JOk V E cc own n d ret enc) {a : Nat} {C : String} {T : u_T} {N ix : Nat} {ty : Nat → FieldType} {fs : List Value} {v : Value} (hO : jO V X a (C, T, N) fs) (hc : jcl (C, T, N) ty) (k : Nat) (hk : k < N) (hl : Cond.fieldLink own ix (T k).1 (T k).2.1 (T k).2.2.1 ∈ jj_tb) (hv : fs[k]? = some v) (hd : jd cc pc (.getfield ix) 3 pc') (kk : J V E fin o pc' L (v :: st) X) : J V E fin o pc L (.ref a :: st) X := by
  obtain ⟨p, l, e, R, s, m, args, below, meth, c, nL, A, Qc, res⟩ := E
  obtain ⟨hx, hb, ⟨hml, hnL⟩, hown, hts, hlk, hrt, hR, hK, hA, hSt, hq⟩ := hE
  obtain ⟨hd, rfl⟩ := hd
  obtain ⟨q0, ci, h1, h2⟩ := hO
  intro ho H locs ls hP hD hS hl'
  exact va_get hx hb hts hc.1 hown hK hP q0 h2 h1 k hk (hts _ hl) (fun _ h => h) hv hd (kk ho H locs ls hP hD hS hl')
theorem J_put (hE : JOk V E cc own n d ret enc) {get : σ → M2} {put : σ → M2 → σ} {b : Nat} {a : Nat → Nat} {C : String} {T : u_T} {N ix : Nat} {fs : (Nat → Nat) → M2 → List Value} {sc : List Nat} {ar : List (Nat × Nat × FieldType)} {ty : Nat → FieldType} {v : Int32} (hO : vOb V get put b a (C, T, N) fs sc ar) (hc : jcl (C, T, N) ty) (k : Nat) (hk : k < N) (hs : k ∈ sc) (hl : Cond.fieldLink own ix (T k).1 (T k).2.1 (T k).2.2.1 ∈ jj_tb) (hfin : (T k).2.2.2 = false) (hn : narrow (ty k) (.int v) = .int v) (hfit : fits (ty k) (.int v) = true) (hlen : k < (fs a (get X)).length) (hd : jd cc pc (.putfield ix) 3 pc') (kk : J V E fin o pc' L st (put X (va_up (get X) k (fun _ => v)))) : J V E fin o pc L (.int v :: .ref b :: st) X := by
  obtain ⟨p, l, e, R, s, m, args, below, meth, c, nL, A, Qc, res⟩ := E
  obtain ⟨hx, hb, ⟨hml, hnL⟩, hown, hts, hlk, hrt, hR, hK, hA, hSt, hq⟩ := hE
  obtain ⟨hd, rfl⟩ := hd
  obtain ⟨⟨q0, ci, h1, h2⟩, -⟩ := hO
  intro ho H locs ls hP hD hS hl'
  refine va_put hx hb hts hc.1 ty hc.2.1 hc.2.2 hown hK hP hD hS q0 (h2 X).1 h1 k hk (hts _ hl) (fun _ h => h) hfin (hc.2.1 k hk) hn hfit hlen hd (fun H1 locs1 hP1 hD1 hS1 => ?_)
  rw [(h2 X).2 k hs v] at hP1 hD1
  exact kk ho H1 locs1 ls hP1 hD1 hS1 hl'
theorem J_ald (hE : JOk V E cc own n d ret enc) {a N : Nat} {f : Nat → Int32} {i : Int32} (hAr : jA V X a N .int f) (hd : jd cc pc .iaload 1 pc') (kk : J V E fin o pc' L (.int (f i.toNatClampNeg) :: st) X) : J V E fin (bnd i N o) pc L (.int i :: .ref a :: st) X := by
  obtain ⟨p, l, e, R, s, m, args, below, meth, c, nL, A, Qc, res⟩ := E
  obtain ⟨hx, hb, ⟨hml, hnL⟩, hown, hts, hlk, hrt, hR, hK, hA, hSt, hq⟩ := hE
  obtain ⟨hd, rfl⟩ := hd
  obtain ⟨q0, t, cA, h1, h2⟩ := hAr
  intro ho H locs ls hP hD hS hl'
  unfold bnd at ho
  by_cases h : i < 0 ∨ N ≤ i.toNatClampNeg
  · rw [if_pos h] at ho; exact absurd ho (by simp)
  · rw [if_neg h] at ho
    exact va_iald hx hb hK hP q0 t h2 h1 h hd (kk ho H locs ls hP hD hS hl')
theorem J_zald (hE : JOk V E cc own n d ret enc) {a N : Nat} {f : Nat → Int32} {i : Int32} (hAr : jA V X a N .boolean f) (hd : jd cc pc .baload 1 pc') (kk : J V E fin o pc' L (.int (f i.toNatClampNeg) :: st) X) : J V E fin (bnd i N o) pc L (.int i :: .ref a :: st) X := by
  obtain ⟨p, l, e, R, s, m, args, below, meth, c, nL, A, Qc, res⟩ := E
  obtain ⟨hx, hb, ⟨hml, hnL⟩, hown, hts, hlk, hrt, hR, hK, hA, hSt, hq⟩ := hE
  obtain ⟨hd, rfl⟩ := hd
  obtain ⟨q0, t, cA, h1, h2⟩ := hAr
  intro ho H locs ls hP hD hS hl'
  unfold bnd at ho
  by_cases h : i < 0 ∨ N ≤ i.toNatClampNeg
  · rw [if_pos h] at ho; exact absurd ho (by simp)
  · rw [if_neg h] at ho
    exact va_zald hx hb hK hP q0 t h2 h1 h hd (kk ho H locs ls hP hD hS hl')
theorem J_qld (hE : JOk V E cc own n d ret enc) {a N : Nat} {C : String} {f : Nat → Option Nat} {i : Int32} (hAr : jQ V X a N C f) (hd : jd cc pc .aaload 1 pc') (kk : ¬ (i < 0 ∨ N ≤ i.toNatClampNeg) → J V E fin o pc' L (va_rf (f i.toNatClampNeg) :: st) X) : J V E fin (bnd i N o) pc L (.int i :: .ref a :: st) X := by
  obtain ⟨p, l, e, R, s, m, args, below, meth, c, nL, A, Qc, res⟩ := E
  obtain ⟨hx, hb, ⟨hml, hnL⟩, hown, hts, hlk, hrt, hR, hK, hA, hSt, hq⟩ := hE
  obtain ⟨hd, rfl⟩ := hd
  obtain ⟨q0, t, cA, h1, h2⟩ := hAr
  intro ho H locs ls hP hD hS hl'
  unfold bnd at ho
  by_cases h : i < 0 ∨ N ≤ i.toNatClampNeg
  · rw [if_pos h] at ho; exact absurd ho (by simp)
  · rw [if_neg h] at ho
    exact va_aldq hx hb hK hP q0 t h2 h1 h hd (kk h ho H locs ls hP hD hS hl')
theorem J_ast (hE : JOk V E cc own n d ret enc) {get : σ → M2} {put : σ → M2 → σ} {b : Nat} {a : Nat → Nat} {r : vw_C} {fs : (Nat → Nat) → M2 → List Value} {sc : List Nat} {ar : List (Nat × Nat × FieldType)} {N : Nat} {i v : Int32} (hO : vOb V get put b a r fs sc ar) (k : Nat) (hk : (k, N, .int) ∈ ar) (hd : jd cc pc .iastore 1 pc') (kk : J V E fin o pc' L st (put X (va_up (get X) k (upd (get X k) i.toNatClampNeg v)))) : J V E fin (bnd i N o) pc L (.int v :: .int i :: .ref (a k) :: st) X := by
  obtain ⟨p, l, e, R, s, m, args, below, meth, c, nL, A, Qc, res⟩ := E
  obtain ⟨hx, hb, ⟨hml, hnL⟩, hown, hts, hlk, hrt, hR, hK, hA, hSt, hq⟩ := hE
  obtain ⟨hd, rfl⟩ := hd
  obtain ⟨q0, t, cA, h1, h2⟩ := hO.2 _ hk
  intro ho H locs ls hP hD hS hl'
  unfold bnd at ho
  by_cases h : i < 0 ∨ N ≤ i.toNatClampNeg
  · rw [if_pos h] at ho; exact absurd ho (by simp)
  · rw [if_neg h] at ho
    refine va_iast hx hb hK hP hD hS q0 t (h2 X).1 h1 h hd (fun H1 locs1 hP1 hD1 hS1 => ?_)
    rw [(h2 X).2] at hP1 hD1
    exact kk ho H1 locs1 ls hP1 hD1 hS1 hl'
theorem J_zast (hE : JOk V E cc own n d ret enc) {get : σ → M2} {put : σ → M2 → σ} {b : Nat} {a : Nat → Nat} {r : vw_C} {fs : (Nat → Nat) → M2 → List Value} {sc : List Nat} {ar : List (Nat × Nat × FieldType)} {N : Nat} {i v : Int32} (hO : vOb V get put b a r fs sc ar) (k : Nat) (hk : (k, N, .boolean) ∈ ar) (hz : vp_nar .boolean v = v) (hd : jd cc pc .bastore 1 pc') (kk : J V E fin o pc' L st (put X (va_up (get X) k (upd (get X k) i.toNatClampNeg v)))) : J V E fin (bnd i N o) pc L (.int v :: .int i :: .ref (a k) :: st) X := by
  obtain ⟨p, l, e, R, s, m, args, below, meth, c, nL, A, Qc, res⟩ := E
  obtain ⟨hx, hb, ⟨hml, hnL⟩, hown, hts, hlk, hrt, hR, hK, hA, hSt, hq⟩ := hE
  obtain ⟨hd, rfl⟩ := hd
  obtain ⟨q0, t, cA, h1, h2⟩ := hO.2 _ hk
  intro ho H locs ls hP hD hS hl'
  unfold bnd at ho
  by_cases h : i < 0 ∨ N ≤ i.toNatClampNeg
  · rw [if_pos h] at ho; exact absurd ho (by simp)
  · rw [if_neg h] at ho
    refine va_zast hx hb hK hP hD hS q0 t (h2 X).1 h1 h hd (fun H1 locs1 hP1 hD1 hS1 => ?_)
    rw [hz, (h2 X).2] at hP1 hD1
    exact kk ho H1 locs1 ls hP1 hD1 hS1 hl'
/-- System.arraycopy from place 0 to place 0 -/
theorem J_copy (hE : JOk V E cc own n d ret enc) {get : σ → M2} {put : σ → M2 → σ} {b a0 ix : Nat} {a : Nat → Nat} {r : vw_C} {fs : (Nat → Nat) → M2 → List Value} {sc : List Nat} {ar : List (Nat × Nat × FieldType)} {N : Nat} {f : Nat → Int32} {z : Int32} (hO : vOb V get put b a r fs sc ar) (k : Nat) (hk : (k, N, .int) ∈ ar) (hAr : jA V X a0 N .int f) (hz : z.toNatClampNeg = N) (hz0 : ¬ z < 0) (hl : Cond.methodLink own ix arraycopyName ∈ jj_tb) (hs : (st.map fun v => v.category).sum + 30 ≤ 60 * d) (hd1 : 1 ≤ d) (hd : jd cc pc (.invokestatic ix) 3 pc') (kk : J V E fin o pc' L st (put X (va_up (get X) k (va_cpy f (get X k) 0 0 N)))) : J V E fin o pc L (.int z :: .int 0 :: .ref (a k) :: .int 0 :: .ref a0 :: st) X := by
  obtain ⟨p, l, e, R, s, m, args, below, meth, c, nL, A, Qc, res⟩ := E
  obtain ⟨hx, hb, ⟨hml, hnL⟩, hown, hts, hlk, hrt, hR, hK, hA, hSt, hq⟩ := hE
  obtain ⟨hd, rfl⟩ := hd
  obtain ⟨q0, t0, c0, g1, g2⟩ := hAr
  obtain ⟨q1, t1, c1, h1, h2⟩ := hO.2 _ hk
  subst hR
  intro ho H locs ls hP hD hS hl'
  refine va_copyi hx hb (by rw [hml, ← hnL]; exact hl'.1.symm) hown (hts _ hl) (hts _ jw_native) (hts _ jw_nstat) (hts _ jw_nini) hK hP hD hS q0 q1 t0 t1 g2 (h2 X).1 g1 h1 rfl (by decide) (by decide) hz0 (by rw [hz]; exact Nat.le_of_eq (Nat.zero_add _)) (by rw [hz]; exact Nat.le_of_eq (Nat.zero_add _)) (fun _ _ => rfl) hd1 (Nat.le_trans (Nat.add_le_add_left (by decide +kernel) _) hs) hd (fun H1 locs1 hP1 hD1 hS1 => ?_)
  rw [hz, (h2 X).2] at hP1 hD1
  exact kk ho H1 locs1 ls hP1 hD1 hS1 hl'
theorem J_min (hE : JOk V E cc own n d ret enc) {ix : Nat} {x y : Int32} (hl : Cond.methodLink own ix Lib.Math.min.name ∈ jj_tb) (hs : (st.map fun v => v.category).sum + 13 ≤ 60 * d) (hd1 : 1 ≤ d) (hd : jd cc pc (.invokestatic ix) 3 pc') (kk : J V E fin o pc' L (.int (if y < x then y else x) :: st) X) : J V E fin o pc L (.int y :: .int x :: st) X := by
  obtain ⟨p, l, e, R, s, m, args, below, meth, c, nL, A, Qc, res⟩ := E
  obtain ⟨hx, hb, ⟨hml, hnL⟩, hown, hts, hlk, hrt, hR, hK, hA, hSt, hq⟩ := hE
  obtain ⟨hd, rfl⟩ := hd
  subst hR
  intro ho H locs ls hP hD hS hl'
  exact va_mmin hx hb (by rw [hml, ← hnL]; exact hl'.1.symm) hown (hts _ hl) (hts _ jw_minS) (hts _ jw_math) (hts _ jw_minC) hd1 hs (Nat.le_refl 0) (Nat.le_refl 0) hd (kk ho H locs ls hP hD hS hl')
theorem J_max (hE : JOk V E cc own n d ret enc) {ix : Nat} {x y : Int32} (hl : Cond.methodLink own ix Lib.Math.max.name ∈ jj_tb) (hs : (st.map fun v => v.category).sum + 13 ≤ 60 * d) (hd1 : 1 ≤ d) (hd : jd cc pc (.invokestatic ix) 3 pc') (kk : J V E fin o pc' L (.int (if x < y then y else x) :: st) X) : J V E fin o pc L (.int y :: .int x :: st) X := by
  obtain ⟨p, l, e, R, s, m, args, below, meth, c, nL, A, Qc, res⟩ := E
  obtain ⟨hx, hb, ⟨hml, hnL⟩, hown, hts, hlk, hrt, hR, hK, hA, hSt, hq⟩ := hE
  obtain ⟨hd, rfl⟩ := hd
  subst hR
  intro ho H locs ls hP hD hS hl'
  exact va_mmax hx hb (by rw [hml, ← hnL]; exact hl'.1.symm) hown (hts _ hl) (hts _ jw_maxS) (hts _ jw_math) (hts _ jw_maxC) hd1 hs (Nat.le_refl 0) (Nat.le_refl 0) hd (kk ho H locs ls hP hD hS hl')
end JV
section CL
variable {σ ρ ρ' α : Type} {fin : α → ρ × σ} {V : JV σ} {E : JE σ ρ} {cc : ByteArray} {own : String} {n d : Nat} {ret : Option FieldType} {enc : ρ → Option Value} {pc pc' : Nat} {L L' : List (Nat × Value)} {st : List Value} {X : σ}
theorem jj_blind {Pq : State → Prop} {av : List Value} (h : ∀ (a : Array Value) (U : State) (g : JFrame) (mk : MethodId), Pq U → Pq (U.calling g mk a)) : FrameBlind (va_Pc av Pq) := fun a U g mk q => ⟨q.1, h a U g mk q.2⟩
theorem jj_St.to {K Z : Nat → Nat} {A B : Nat → Prop} {s U : State} {H : Heap} {locs : List Loc} (h : jj_St K Z A s s.heap) (hS : va_S A s.heap H locs) (hAB : ∀ q, B q → A q) (hW : s.WarmedH U.vm) (hU : U.heap = H) : jj_St K Z B U U.heap := by
  rw [hU]
  exact ⟨((h.1.kept hS.2.1).narrow hAB).moved hW.alike, fun i hi => (h.2.1 i hi).warm hW, fun q hq => (h.2.2.1 q hq).warmM hW, ((h.2.2.2.1.kept hS.2.1).narrow hAB).moved hW.alike, ((h.2.2.2.2.kept hS.2.1).narrow hAB).moved hW.alike⟩
theorem jj_St.calling {K Z : Nat → Nat} {A : Nat → Prop} {U : State} {H : Heap} {g : JFrame} {mk : MethodId} {a : Array Value} (h : jj_St K Z A U H) : jj_St K Z A (U.calling g mk a) H :=
  ⟨h.1.moved (Vm.Alike.refl U.vm), fun i hi => (h.2.1 i hi).same rfl, fun q hq => (h.2.2.1 q hq).same rfl rfl, h.2.2.2.1.moved (Vm.Alike.refl U.vm), h.2.2.2.2.moved (Vm.Alike.refl U.vm)⟩
/-- what a callee's start asks, at a caller's state -/
theorem jj_pre {K Z : Nat → Nat} {D : va_G} {cl : List vw_C} {tys : List (ClassId × FieldType)} {ws : va_W} {A : Nat → Prop} {s : State} {H : Heap} {locs : List Loc} {av : List Value} (hK : va_K D cl tys s) (hSt : jj_St K Z A s s.heap) (hA : ∀ q : Nat, s.heap.size ≤ q → A q) (hP : va_P D cl ws H) (hD : va_D A ws) (hS : va_S A s.heap H locs) :
    PreS s H (va_Pc av (fun U => U.heap.size = H.size ∧ va_P D cl ws U.heap ∧ va_K D cl tys U ∧ va_D (fun _ => True) ws ∧ jj_St K Z (va_A ws H.size) U U.heap)) av := by
  refine ⟨jj_blind (fun a U g mk q => ?_), fun U hU hW => ⟨rfl, by rw [hU], by rw [hU]; exact hP, va_K.moved hW.alike hK, hD.weaken (fun _ _ _ _ => trivial), hSt.to hS (fun q h => ?_) hW hU⟩⟩
  · obtain ⟨q1, q2, q3, q4, q5⟩ := q
    exact ⟨q1, q2, va_K.moved (u := U) (U := U.calling g mk a) (Vm.Alike.refl U.vm) q3, q4, q5.calling⟩
  · rcases h with ⟨k, e, h⟩ | h
    · exact hD.2 k _ h
    · exact hA q (Nat.le_trans hS.1 h)
theorem jj_back {p : Program} {l : Launch} {e : Env} {R : Room} {s : State} {m : MethodId} {args : Array Value} {below : List Frame} {meth : Method} {c : Code} {H : Heap} {locs : List Loc} {Q : State → Prop} {ls : Array Slot} {rest st0 : List Value} {A A1 : Nat → Prop} {v0 : Option Value} {D : va_G} {cl : List vw_C} {tys : List (ClassId × FieldType)} {ws : va_W} {free : Addr → Prop}
    (hr : va_Run p l e R s m args below meth c H locs 0 0 0 0 (F0 m pc ls st0) rest (fun st oc t => (oc = .returned v0 ∧ va_P D cl ws t.heap ∧ va_K D cl tys t ∧ va_D A1 ws) ∧ va_F A1 st t) free) (hS : va_S A s.heap H locs) (hA : ∀ q, A1 q → A q) (hf : ∀ q, free q → A q)
    (kk : ∀ (H1 : Heap) (locs1 : List Loc), va_P D cl ws H1 → va_D A ws → va_S A s.heap H1 locs1 → W p l e R s m args below meth c H1 locs1 0 0 Q (F0 m (pc + 3) ls (v0.toList ++ rest))) : W p l e R s m args below meth c H locs 0 0 Q (F0 m pc ls st0) := by
  intro T hT X
  obtain ⟨v, st₀, t, T', Lc, h0, X', hL, e1, e2, ⟨⟨hv, hp, hk, hd⟩, hz, hkk⟩, stp⟩ := hr T hT X
  cases hv
  rw [h0] at hz hkk
  obtain ⟨t2, a1, b1⟩ := kk T'.heap (locs ++ Lc) (by rw [e1]; exact hp) (hd.weaken (fun _ q _ h => hA q.1 h))
    ⟨Nat.le_trans hS.1 (by rw [e1]; exact hz), fun q h1 h2 => by rw [e1, hkk q (Nat.lt_of_lt_of_le h1 hS.1) (fun z => h2 (hA q z))]; exact hS.2.1 q h1 h2, fun q hq => by
      rcases List.mem_append.mp hq with h | h
      · exact hS.2.2 q h
      · exact hf _ (hL q h)⟩ T' rfl X'
  exact ⟨t2, stp t2 a1, b1⟩
theorem jj_goodV {own : String} {ix : Nat} {y : MethodName} {cc : ByteArray} {n k : Nat} {ret : Option FieldType} (hm : jmV y cc n ret k) (hl : Cond.methodLink own ix y ∈ jj_tb) : GoodIn jj_tb (wsV own ix y.cls y (.code y cc n ret :: jj_tb)) := by
  obtain ⟨⟨m1, m2, -⟩, m3, m4⟩ := hm
  refine jj_g1 (fun w hw => ?_)
  simp only [wsV, List.cons_append, List.nil_append, List.mem_cons] at hw
  rcases hw with rfl | rfl | rfl | rfl | rfl | h
  · exact hl
  · exact m3
  · exact m4
  · exact m2
  · exact m1
  · exact h
theorem jj_goodS {own : String} {ix : Nat} {y : MethodName} {cc : ByteArray} {n k : Nat} {ret : Option FieldType} (hm : jmS y cc n ret k) (hst : Cond.static y ∈ jj_tb) (hl : Cond.methodLink own ix y ∈ jj_tb) : GoodIn jj_tb (va_wsS own ix y (.code y cc n ret :: jj_tb)) := by
  obtain ⟨m1, m2, -⟩ := hm
  refine jj_g1 (fun w hw => ?_)
  simp only [va_wsS, List.cons_append, List.nil_append, List.mem_cons] at hw
  rcases hw with rfl | rfl | rfl | rfl | h
  · exact hl
  · exact hst
  · exact m2
  · exact m1
  · exact h
theorem jj_good0 {y : MethodName} {cc : ByteArray} {n k : Nat} {ret : Option FieldType} (hm : jmS y cc n ret k) : GoodIn jj_tb (.code y cc n ret :: jj_tb) := jj_g1 (fun w hw => by
  rcases List.mem_cons.mp hw with rfl | h
  · exact hm.1
  · exact h)
theorem jj_room {d d' n' : Nat} (h : d' + 1 ≤ d) (h2 : n' ≤ 41) : (jj_R d').frames + 1 ≤ (jj_R d).frames ∧ 8 + (n' + 11) + (jj_R d').locals ≤ (jj_R d).locals := ⟨h, by show 8 + (n' + 11) + 60 * d' ≤ 60 * d; omega⟩
theorem J_invV (hE : JOk V E cc own n d ret enc) {y : MethodName} {cc' : ByteArray} {n' d' k ix b : Nat} {ret' : Option FieldType} {enc' : ρ' → Option Value} {As : List Value} {β : Type} {fin1 : β → ρ' × σ} {o1 : Option β} {K : β → Option α} {T : u_T} {N : Nat} {fs : List Value} {stk : List Value}
    (hC : JC E.2.1 V y cc' n' ret' enc' d' (.ref b :: As) X (o1.map fin1)) (hO : jO V X b (y.cls, T, N) fs) (hm : jmV y cc' n' ret' k) (hk : As.length = k) (hl : Cond.methodLink own ix y ∈ jj_tb) (hdd : d' + 1 ≤ d) (hn' : n' ≤ 41) (hst : stk = As.reverse ++ .ref b :: st) (hcat : (st.map fun v => v.category).sum ≤ 8) (hd : jd cc pc (.invokevirtual ix) 3 pc')
    (kk : ∀ q : β, o1 = some q → J V E fin (K q) pc' L ((enc' (fin1 q).1).toList ++ st) (fin1 q).2) : J V E fin (o1.bind K) pc L stk X := by
  obtain ⟨p, l, e, R, s, m, args, below, meth, c, nL, A, Qc, res⟩ := E
  obtain ⟨hx, hb, ⟨hml, hnL⟩, hown, hts, hlk, hrt, hR, hK, hA, hSt, hq⟩ := hE
  obtain ⟨hd, rfl⟩ := hd
  obtain ⟨q0, ci, g1, g2⟩ := hO
  subst hR
  subst hst
  intro ho H locs ls hP hD hS hl'
  cases hq1 : o1 with
  | none => rw [hq1] at ho; exact absurd ho (by simp)
  | some q =>
    rw [hq1] at ho
    have hpre := jj_pre (av := Value.ref b :: As) hK hSt hA hP hD hS
    have hfr : ∀ x, va_A (V.2.2.2.1 X) H.size x → A x := fun x h => by
      rcases h with ⟨k, e, h⟩ | h
      · exact hD.2 k _ h
      · exact hA x (Nat.le_trans hS.1 h)
    refine jj_back (va_runV (nL := nL) (As := As) (rest := st) ⟨hx, hb, by rw [hml, hnL], hown, hts⟩ (hC (fin1 q) (by rw [hq1]; rfl) H.size) (cwV k hts (jj_goodV hm hl) rfl rfl rfl ⟨rfl, hm.1.2.2.1.1, hm.1.2.2.1.2, hm.1.2.2.2⟩ (jj_room hdd hn')) ⟨hpre.1, va_recv hK hP g1 g2, hpre.2⟩ rfl hk hl'.1 rfl (lv_room (pc := pc) (ls := ls) (rest := As.reverse ++ .ref b :: st) (m := m) hcat) hd ⟨Nat.zero_le _, Nat.zero_le _⟩) hS hfr hfr (fun H1 locs1 hP1 hD1 hS1 => ?_)
    exact kk q hq1 ho H1 locs1 ls hP1 hD1 hS1 hl'
theorem J_invS (hE : JOk V E cc own n d ret enc) {y : MethodName} {cc' : ByteArray} {n' d' k ix : Nat} {ret' : Option FieldType} {enc' : ρ' → Option Value} {As : List Value} {β : Type} {fin1 : β → ρ' × σ} {o1 : Option β} {K : β → Option α} {stk : List Value}
    (hC : JC E.2.1 V y cc' n' ret' enc' d' As X (o1.map fin1)) (hm : jmS y cc' n' ret' k) (hsta : Cond.static y ∈ jj_tb) (hk : As.length = k) (hl : Cond.methodLink own ix y ∈ jj_tb) (hdd : d' + 1 ≤ d) (hn' : n' ≤ 41) (hst : stk = As.reverse ++ st) (hcat : (st.map fun v => v.category).sum ≤ 8) (hd : jd cc pc (.invokestatic ix) 3 pc')
    (kk : ∀ q : β, o1 = some q → J V E fin (K q) pc' L ((enc' (fin1 q).1).toList ++ st) (fin1 q).2) : J V E fin (o1.bind K) pc L stk X := by
  obtain ⟨p, l, e, R, s, m, args, below, meth, c, nL, A, Qc, res⟩ := E
  obtain ⟨hx, hb, ⟨hml, hnL⟩, hown, hts, hlk, hrt, hR, hK, hA, hSt, hq⟩ := hE
  obtain ⟨hd, rfl⟩ := hd
  subst hR
  subst hst
  intro ho H locs ls hP hD hS hl'
  cases hq1 : o1 with
  | none => rw [hq1] at ho; exact absurd ho (by simp)
  | some q =>
    rw [hq1] at ho
    have hpre := jj_pre (av := As) hK hSt hA hP hD hS
    have hfr : ∀ x, va_A (V.2.2.2.1 X) H.size x → A x := fun x h => by
      rcases h with ⟨k, e, h⟩ | h
      · exact hD.2 k _ h
      · exact hA x (Nat.le_trans hS.1 h)
    refine jj_back (va_runS (nL := nL) (As := As) (rest := st) ⟨hx, hb, by rw [hml, hnL], hown, hts⟩ (hC (fin1 q) (by rw [hq1]; rfl) H.size) (va_cwS k hts (jj_goodS hm hsta hl) rfl rfl rfl ⟨hm.2.2.1.1, hm.2.2.1.2, hm.2.2.2⟩ (jj_room hdd hn')) hpre rfl hk hl'.1 rfl (lv_room (pc := pc) (ls := ls) (rest := As.reverse ++ st) (m := m) hcat) hd ⟨Nat.zero_le _, Nat.zero_le _⟩) hS hfr hfr (fun H1 locs1 hP1 hD1 hS1 => ?_)
    exact kk q hq1 ho H1 locs1 ls hP1 hD1 hS1 hl'
theorem J_invN (hE : JOk V E cc own n d ret enc) {y : MethodName} {host : String} {cc' : ByteArray} {n' d' k ix : Nat} {ret' : Option FieldType} {enc' : ρ' → Option Value} {As : List Value} {β : Type} {fin1 : β → ρ' × σ} {o1 : Option β} {K : β → Option α} {stk : List Value}
    (hC : JC E.2.1 V y cc' n' ret' enc' d' As X (o1.map fin1)) (hm : jmS y cc' n' ret' k) (hsta : Cond.static y ∈ jj_tb) (hk : As.length = k) (hl : (own, ix, y, host) ∈ jj_nest) (hdd : d' + 1 ≤ d) (hn' : n' ≤ 41) (hst : stk = As.reverse ++ st) (hcat : (st.map fun v => v.category).sum ≤ 8) (hd : jd cc pc (.invokestatic ix) 3 pc')
    (kk : ∀ q : β, o1 = some q → J V E fin (K q) pc' L ((enc' (fin1 q).1).toList ++ st) (fin1 q).2) : J V E fin (o1.bind K) pc L stk X := by
  obtain ⟨p, l, e, R, s, m, args, below, meth, c, nL, A, Qc, res⟩ := E
  obtain ⟨hx, hb, ⟨hml, hnL⟩, hown, hts, hlk, hrt, hR, hK, hA, hSt, hq⟩ := hE
  obtain ⟨hd, rfl⟩ := hd
  subst hR
  subst hst
  intro ho H locs ls hP hD hS hl'
  cases hq1 : o1 with
  | none => rw [hq1] at ho; exact absurd ho (by simp)
  | some q =>
    rw [hq1] at ho
    have hpre := jj_pre (av := As) hK hSt hA hP hD hS
    have hfr : ∀ x, va_A (V.2.2.2.1 X) H.size x → A x := fun x h => by
      rcases h with ⟨k, e, h⟩ | h
      · exact hD.2 k _ h
      · exact hA x (Nat.le_trans hS.1 h)
    refine jj_back (va_runSN (nL := nL) (host := host) (As := As) (rest := st) ⟨hx, hb, by rw [hml, hnL], hown, hts⟩ (hC (fin1 q) (by rw [hq1]; rfl) H.size) ⟨va_cnB k hts (jj_good0 hm) rfl rfl rfl (hSt.2.2.1 _ hl) (hts _ hm.2.1) ⟨hm.2.2.1.1, hm.2.2.1.2, hm.2.2.2⟩ (jj_room hdd hn'), hts _ hsta, trivial⟩ hpre rfl hk hl'.1 rfl (lv_room (pc := pc) (ls := ls) (rest := As.reverse ++ st) (m := m) hcat) hd ⟨Nat.zero_le _, Nat.zero_le _⟩) hS hfr hfr (fun H1 locs1 hP1 hD1 hS1 => ?_)
    exact kk q hq1 ho H1 locs1 ls hP1 hD1 hS1 hl'
end CL
section LF
variable {σ τ ρ ρ' α : Type} {l : Launch} {V : JV σ} {e : τ → σ} {y : MethodName} {cc : ByteArray} {n : Nat} {ret : Option FieldType} {enc : ρ → Option Value} {d : Nat} {av : List Value} {t : τ} {X : σ}
theorem JC.lift_r {o : Option ρ} (h : JC l (jj_sub V e) y cc n ret enc d av t (o.map (fun r => (r, t)))) (he : e t = X) : JC l V y cc n ret enc d av X (o.map (fun r => (r, X))) := by
  subst he
  have z := h.lift
  rw [Option.map_map] at z
  exact z
theorem JC.lift_w {o : Option (ρ × τ)} (h : JC l (jj_sub V e) y cc n ret enc d av t (o.map (fun q => (q.1, q.2)))) (he : e t = X) : JC l V y cc n ret enc d av X (o.map (fun q => (q.1, e q.2))) := by
  subst he
  have z := h.lift
  rw [Option.map_map] at z
  exact z
theorem JC.lift_v {enc : Unit → Option Value} {o : Option τ} (h : JC l (jj_sub V e) y cc n ret enc d av t (o.map (fun q => ((), q)))) (he : e t = X) : JC l V y cc n ret enc d av X (o.map (fun q => ((), e q))) := by
  subst he
  have z := h.lift
  rw [Option.map_map] at z
  exact z
theorem JC_none {α : Type} {fin : α → ρ × σ} : JC l V y cc n ret enc d av X (Option.map fin none) := fun res ho => absurd ho (by simp)
end LF
theorem va_up_up {α : Type} (f : Nat → α) (k : Nat) (v w : α) : va_up (va_up f k v) k w = va_up f k w := by
  funext j
  simp only [va_up]
  split <;> rfl
theorem va_up_eta {α : Type} (f : Nat → α) (k : Nat) : va_up f k (f k) = f := by
  funext j
  simp only [va_up]
  split
  · rename_i h; rw [h]
  · rfl
theorem va_up_comm {α : Type} (f : Nat → α) {j k : Nat} (h : j ≠ k) (v w : α) : va_up (va_up f j v) k w = va_up (va_up f k w) j v := by
  funext i
  simp only [va_up]
  by_cases h1 : i = k
  · subst h1; simp [Ne.symm h]
  · simp [h1]
theorem va_up_eta2 {α : Type} (f : Nat → α) (j k : Nat) : va_up (va_up f j (f j)) k (f k) = f := by rw [va_up_eta, va_up_eta]
def zb {α : Type} (v : Int32) (o : Option α) : Option α := if v = 0 ∨ v = 1 then o else none
section J2
variable {σ ρ α : Type} {fin : α → ρ × σ} {V : JV σ} {E : JE σ ρ} {cc : ByteArray} {own : String} {n d : Nat} {ret : Option FieldType} {enc : ρ → Option Value} {o : Option α} {pc pc' : Nat} {L L' : List (Nat × Value)} {st : List Value} {X : σ}
theorem J_zb {v : Int32} (k : v = 0 ∨ v = 1 → J V E fin o pc L st X) : J V E fin (zb v o) pc L st X := by
  unfold zb
  exact J_ite k (fun _ => J_none)
theorem J_ldcS (hE : JOk V E cc RX3 n d ret enc) {ix : Nat} (hd : jd cc pc (.ldc ix) 2 pc') {k : Nat} (hk : k < 8) (hix : jj_six.getD k 0 = ix) (kk : J V E fin o pc' L (.ref (V.2.2.2.2.1 k) :: st) X) : J V E fin o pc L st X := by
  obtain ⟨p, l, e, R, s, m, args, below, meth, c, nL, A, Qc, res⟩ := E
  obtain ⟨hx, hb, ⟨hml, hnL⟩, hown, hts, hlk, hrt, hR, hK, hA, hSt, hq⟩ := hE
  obtain ⟨hd, rfl⟩ := hd
  subst hix
  intro ho H locs ls hP hD hS hl
  exact va_ldcS hx hb hown (hSt.2.1 k hk) hd (kk ho H locs ls hP hD hS hl)
/-- a call on a String constant -/
theorem J_invK (hE : JOk V E cc own n d ret enc) {y : MethodName} {cc' : ByteArray} {n' d' k ka ix : Nat} {ret' : Option FieldType} {As : List Value} {o1 : Option Int32} {K : Int32 → Option α} {stk : List Value}
    (hC : JC E.2.1 V y cc' n' ret' jj_i d' (.ref (V.2.2.2.2.1 k) :: As) X (o1.map (fun r => (r, X)))) (hk8 : k < 8) (hm : jmV y cc' n' ret' ka) (hyc : y.cls = "java/lang/String") (hk : As.length = ka) (hl : Cond.methodLink own ix y ∈ jj_tb) (hdd : d' + 1 ≤ d) (hn' : n' ≤ 41) (hst : stk = As.reverse ++ .ref (V.2.2.2.2.1 k) :: st) (hcat : (st.map fun v => v.category).sum ≤ 8) (hd : jd cc pc (.invokevirtual ix) 3 pc')
    (kk : ∀ q : Int32, J V E fin (K q) pc' L (.int q :: st) X) : J V E fin (o1.bind K) pc L stk X := by
  obtain ⟨p, l, e, R, s, m, args, below, meth, c, nL, A, Qc, res⟩ := E
  obtain ⟨hx, hb, ⟨hml, hnL⟩, hown, hts, hlk, hrt, hR, hK, hA, hSt, hq⟩ := hE
  obtain ⟨hd, rfl⟩ := hd
  subst hR
  subst hst
  intro ho H locs ls hP hD hS hl'
  cases hq1 : o1 with
  | none => rw [hq1] at ho; exact absurd ho (by simp)
  | some q =>
    rw [hq1] at ho
    have hpre := jj_pre (av := Value.ref (V.2.2.2.2.1 k) :: As) hK hSt hA hP hD hS
    have hfr : ∀ x, va_A (V.2.2.2.1 X) H.size x → A x := fun x h => by
      rcases h with ⟨k, e, h⟩ | h
      · exact hD.2 k _ h
      · exact hA x (Nat.le_trans hS.1 h)
    have hrv := vk_recv hSt.1 hk8 hS
    rw [← hyc] at hrv
    refine jj_back (va_runV (nL := nL) (As := As) (rest := st) ⟨hx, hb, by rw [hml, hnL], hown, hts⟩ (hC (q, X) (by rw [hq1]; rfl) H.size) (cwV ka hts (jj_goodV hm hl) rfl rfl rfl ⟨rfl, hm.1.2.2.1.1, hm.1.2.2.1.2, hm.1.2.2.2⟩ (jj_room hdd hn')) ⟨hpre.1, hrv, hpre.2⟩ rfl hk hl'.1 rfl (lv_room (pc := pc) (ls := ls) (rest := As.reverse ++ .ref (V.2.2.2.2.1 k) :: st) (m := m) hcat) hd ⟨Nat.zero_le _, Nat.zero_le _⟩) hS hfr hfr (fun H1 locs1 hP1 hD1 hS1 => ?_)
    exact kk q ho H1 locs1 ls hP1 hD1 hS1 hl'
end J2
section J3
variable {σ1 σ2 ρ α : Type} {fin : α → ρ × (σ1 × σ2)} {V : JV (σ1 × σ2)} {E : JE (σ1 × σ2) ρ} {pc : Nat} {L : List (Nat × Value)} {st : List Value}
theorem J_let1 {f : σ1 → Option α} {e : σ1} {S : σ2} (k : ∀ x, J V E fin (f x) pc L st (x, S)) : J V E fin (lt e f) pc L st (e, S) := k e
theorem J_let2 {f : σ2 → Option α} {e : σ2} {T : σ1} (k : ∀ x, J V E fin (f x) pc L st (T, x)) : J V E fin (lt e f) pc L st (T, e) := k e
theorem J_letP {f : σ1 → σ2 → Option α} {q : σ1 × σ2} (k : ∀ x y, J V E fin (f x y) pc L st (x, y)) : J V E fin (lt q.1 (fun x => lt q.2 (fun y => f x y))) pc L st q := k q.1 q.2
end J3
section CK
variable {σ ρ α : Type} {fin : α → ρ × σ} {V : JV σ} {E : JE σ ρ} {cc : ByteArray} {own : String} {n d : Nat} {ret : Option FieldType} {enc : ρ → Option Value} {pc pc' : Nat} {L : List (Nat × Value)} {st : List Value} {X : σ}
theorem J_invVri (hE : JOk V E cc own n d ret enc) {y : MethodName} {cc' : ByteArray} {n' d' k ix : Nat} {ret' : Option FieldType} {T : u_T} {N : Nat} {fs : List Value} {b : Nat} {As : List Value} {o1 : Option Int32} {K : Int32 → Option α} {stk : List Value} (hC : JC E.2.1 V y cc' n' ret' jj_i d' (.ref b :: As) X (o1.map (fun r => (r, X)))) (hO : jO V X b (y.cls, T, N) fs) (hm : jmV y cc' n' ret' k) (hk : As.length = k) (hl : Cond.methodLink own ix y ∈ jj_tb) (hdd : d' + 1 ≤ d) (hn' : n' ≤ 41) (hst : stk = As.reverse ++ .ref b :: st) (hcat : (st.map fun v => v.category).sum ≤ 8) (hd : jd cc pc (.invokevirtual ix) 3 pc') (kk : ∀ q : Int32, J V E fin (K q) pc' L (.int q :: st) X) : J V E fin (o1.bind K) pc L stk X := J_invV hE hC hO hm hk hl hdd hn' hst hcat hd (fun q _ => kk q)
theorem J_invVrl (hE : JOk V E cc own n d ret enc) {y : MethodName} {cc' : ByteArray} {n' d' k ix : Nat} {ret' : Option FieldType} {T : u_T} {N : Nat} {fs : List Value} {b : Nat} {As : List Value} {o1 : Option Int64} {K : Int64 → Option α} {stk : List Value} (hC : JC E.2.1 V y cc' n' ret' jj_l d' (.ref b :: As) X (o1.map (fun r => (r, X)))) (hO : jO V X b (y.cls, T, N) fs) (hm : jmV y cc' n' ret' k) (hk : As.length = k) (hl : Cond.methodLink own ix y ∈ jj_tb) (hdd : d' + 1 ≤ d) (hn' : n' ≤ 41) (hst : stk = As.reverse ++ .ref b :: st) (hcat : (st.map fun v => v.category).sum ≤ 8) (hd : jd cc pc (.invokevirtual ix) 3 pc') (kk : ∀ q : Int64, J V E fin (K q) pc' L (.long q :: st) X) : J V E fin (o1.bind K) pc L stk X := J_invV hE hC hO hm hk hl hdd hn' hst hcat hd (fun q _ => kk q)
theorem J_invVwi (hE : JOk V E cc own n d ret enc) {y : MethodName} {cc' : ByteArray} {n' d' k ix : Nat} {ret' : Option FieldType} {T : u_T} {N : Nat} {fs : List Value} {b : Nat} {As : List Value} {τ : Type} {e : τ → σ} {o1 : Option (Int32 × τ)} {K : (Int32 × τ) → Option α} {stk : List Value} (hC : JC E.2.1 V y cc' n' ret' jj_i d' (.ref b :: As) X (o1.map (fun q => (q.1, e q.2)))) (hO : jO V X b (y.cls, T, N) fs) (hm : jmV y cc' n' ret' k) (hk : As.length = k) (hl : Cond.methodLink own ix y ∈ jj_tb) (hdd : d' + 1 ≤ d) (hn' : n' ≤ 41) (hst : stk = As.reverse ++ .ref b :: st) (hcat : (st.map fun v => v.category).sum ≤ 8) (hd : jd cc pc (.invokevirtual ix) 3 pc') (kk : ∀ q : (Int32 × τ), J V E fin (K q) pc' L (.int q.1 :: st) (e q.2)) : J V E fin (o1.bind K) pc L stk X := J_invV hE hC hO hm hk hl hdd hn' hst hcat hd (fun q _ => kk q)
theorem J_invVwv (hE : JOk V E cc own n d ret enc) {y : MethodName} {cc' : ByteArray} {n' d' k ix : Nat} {ret' : Option FieldType} {T : u_T} {N : Nat} {fs : List Value} {b : Nat} {As : List Value} {τ : Type} {e : τ → σ} {o1 : Option τ} {K : τ → Option α} {stk : List Value} (hC : JC E.2.1 V y cc' n' ret' jj_v d' (.ref b :: As) X (o1.map (fun q => ((), e q)))) (hO : jO V X b (y.cls, T, N) fs) (hm : jmV y cc' n' ret' k) (hk : As.length = k) (hl : Cond.methodLink own ix y ∈ jj_tb) (hdd : d' + 1 ≤ d) (hn' : n' ≤ 41) (hst : stk = As.reverse ++ .ref b :: st) (hcat : (st.map fun v => v.category).sum ≤ 8) (hd : jd cc pc (.invokevirtual ix) 3 pc') (kk : ∀ q : τ, J V E fin (K q) pc' L (st) (e q)) : J V E fin (o1.bind K) pc L stk X := J_invV hE hC hO hm hk hl hdd hn' hst hcat hd (fun q _ => kk q)
theorem J_invSri (hE : JOk V E cc own n d ret enc) {y : MethodName} {cc' : ByteArray} {n' d' k ix : Nat} {ret' : Option FieldType} {As : List Value} {o1 : Option Int32} {K : Int32 → Option α} {stk : List Value} (hC : JC E.2.1 V y cc' n' ret' jj_i d' As X (o1.map (fun r => (r, X)))) (hm : jmS y cc' n' ret' k) (hsta : Cond.static y ∈ jj_tb) (hk : As.length = k) (hl : Cond.methodLink own ix y ∈ jj_tb) (hdd : d' + 1 ≤ d) (hn' : n' ≤ 41) (hst : stk = As.reverse ++ st) (hcat : (st.map fun v => v.category).sum ≤ 8) (hd : jd cc pc (.invokestatic ix) 3 pc') (kk : ∀ q : Int32, J V E fin (K q) pc' L (.int q :: st) X) : J V E fin (o1.bind K) pc L stk X := J_invS hE hC hm hsta hk hl hdd hn' hst hcat hd (fun q _ => kk q)
theorem J_invSrl (hE : JOk V E cc own n d ret enc) {y : MethodName} {cc' : ByteArray} {n' d' k ix : Nat} {ret' : Option FieldType} {As : List Value} {o1 : Option Int64} {K : Int64 → Option α} {stk : List Value} (hC : JC E.2.1 V y cc' n' ret' jj_l d' As X (o1.map (fun r => (r, X)))) (hm : jmS y cc' n' ret' k) (hsta : Cond.static y ∈ jj_tb) (hk : As.length = k) (hl : Cond.methodLink own ix y ∈ jj_tb) (hdd : d' + 1 ≤ d) (hn' : n' ≤ 41) (hst : stk = As.reverse ++ st) (hcat : (st.map fun v => v.category).sum ≤ 8) (hd : jd cc pc (.invokestatic ix) 3 pc') (kk : ∀ q : Int64, J V E fin (K q) pc' L (.long q :: st) X) : J V E fin (o1.bind K) pc L stk X := J_invS hE hC hm hsta hk hl hdd hn' hst hcat hd (fun q _ => kk q)
theorem J_invSwi (hE : JOk V E cc own n d ret enc) {y : MethodName} {cc' : ByteArray} {n' d' k ix : Nat} {ret' : Option FieldType} {As : List Value} {τ : Type} {e : τ → σ} {o1 : Option (Int32 × τ)} {K : (Int32 × τ) → Option α} {stk : List Value} (hC : JC E.2.1 V y cc' n' ret' jj_i d' As X (o1.map (fun q => (q.1, e q.2)))) (hm : jmS y cc' n' ret' k) (hsta : Cond.static y ∈ jj_tb) (hk : As.length = k) (hl : Cond.methodLink own ix y ∈ jj_tb) (hdd : d' + 1 ≤ d) (hn' : n' ≤ 41) (hst : stk = As.reverse ++ st) (hcat : (st.map fun v => v.category).sum ≤ 8) (hd : jd cc pc (.invokestatic ix) 3 pc') (kk : ∀ q : (Int32 × τ), J V E fin (K q) pc' L (.int q.1 :: st) (e q.2)) : J V E fin (o1.bind K) pc L stk X := J_invS hE hC hm hsta hk hl hdd hn' hst hcat hd (fun q _ => kk q)
theorem J_invSwv (hE : JOk V E cc own n d ret enc) {y : MethodName} {cc' : ByteArray} {n' d' k ix : Nat} {ret' : Option FieldType} {As : List Value} {τ : Type} {e : τ → σ} {o1 : Option τ} {K : τ → Option α} {stk : List Value} (hC : JC E.2.1 V y cc' n' ret' jj_v d' As X (o1.map (fun q => ((), e q)))) (hm : jmS y cc' n' ret' k) (hsta : Cond.static y ∈ jj_tb) (hk : As.length = k) (hl : Cond.methodLink own ix y ∈ jj_tb) (hdd : d' + 1 ≤ d) (hn' : n' ≤ 41) (hst : stk = As.reverse ++ st) (hcat : (st.map fun v => v.category).sum ≤ 8) (hd : jd cc pc (.invokestatic ix) 3 pc') (kk : ∀ q : τ, J V E fin (K q) pc' L (st) (e q)) : J V E fin (o1.bind K) pc L stk X := J_invS hE hC hm hsta hk hl hdd hn' hst hcat hd (fun q _ => kk q)
theorem J_invNri (hE : JOk V E cc own n d ret enc) {y : MethodName} {host : String} {cc' : ByteArray} {n' d' k ix : Nat} {ret' : Option FieldType} {As : List Value} {o1 : Option Int32} {K : Int32 → Option α} {stk : List Value} (hC : JC E.2.1 V y cc' n' ret' jj_i d' As X (o1.map (fun r => (r, X)))) (hm : jmS y cc' n' ret' k) (hsta : Cond.static y ∈ jj_tb) (hk : As.length = k) (hl : (own, ix, y, host) ∈ jj_nest) (hdd : d' + 1 ≤ d) (hn' : n' ≤ 41) (hst : stk = As.reverse ++ st) (hcat : (st.map fun v => v.category).sum ≤ 8) (hd : jd cc pc (.invokestatic ix) 3 pc') (kk : ∀ q : Int32, J V E fin (K q) pc' L (.int q :: st) X) : J V E fin (o1.bind K) pc L stk X := J_invN hE hC hm hsta hk hl hdd hn' hst hcat hd (fun q _ => kk q)
theorem J_invNrl (hE : JOk V E cc own n d ret enc) {y : MethodName} {host : String} {cc' : ByteArray} {n' d' k ix : Nat} {ret' : Option FieldType} {As : List Value} {o1 : Option Int64} {K : Int64 → Option α} {stk : List Value} (hC : JC E.2.1 V y cc' n' ret' jj_l d' As X (o1.map (fun r => (r, X)))) (hm : jmS y cc' n' ret' k) (hsta : Cond.static y ∈ jj_tb) (hk : As.length = k) (hl : (own, ix, y, host) ∈ jj_nest) (hdd : d' + 1 ≤ d) (hn' : n' ≤ 41) (hst : stk = As.reverse ++ st) (hcat : (st.map fun v => v.category).sum ≤ 8) (hd : jd cc pc (.invokestatic ix) 3 pc') (kk : ∀ q : Int64, J V E fin (K q) pc' L (.long q :: st) X) : J V E fin (o1.bind K) pc L stk X := J_invN hE hC hm hsta hk hl hdd hn' hst hcat hd (fun q _ => kk q)
theorem J_invNwi (hE : JOk V E cc own n d ret enc) {y : MethodName} {host : String} {cc' : ByteArray} {n' d' k ix : Nat} {ret' : Option FieldType} {As : List Value} {τ : Type} {e : τ → σ} {o1 : Option (Int32 × τ)} {K : (Int32 × τ) → Option α} {stk : List Value} (hC : JC E.2.1 V y cc' n' ret' jj_i d' As X (o1.map (fun q => (q.1, e q.2)))) (hm : jmS y cc' n' ret' k) (hsta : Cond.static y ∈ jj_tb) (hk : As.length = k) (hl : (own, ix, y, host) ∈ jj_nest) (hdd : d' + 1 ≤ d) (hn' : n' ≤ 41) (hst : stk = As.reverse ++ st) (hcat : (st.map fun v => v.category).sum ≤ 8) (hd : jd cc pc (.invokestatic ix) 3 pc') (kk : ∀ q : (Int32 × τ), J V E fin (K q) pc' L (.int q.1 :: st) (e q.2)) : J V E fin (o1.bind K) pc L stk X := J_invN hE hC hm hsta hk hl hdd hn' hst hcat hd (fun q _ => kk q)
theorem J_invNwv (hE : JOk V E cc own n d ret enc) {y : MethodName} {host : String} {cc' : ByteArray} {n' d' k ix : Nat} {ret' : Option FieldType} {As : List Value} {τ : Type} {e : τ → σ} {o1 : Option τ} {K : τ → Option α} {stk : List Value} (hC : JC E.2.1 V y cc' n' ret' jj_v d' As X (o1.map (fun q => ((), e q)))) (hm : jmS y cc' n' ret' k) (hsta : Cond.static y ∈ jj_tb) (hk : As.length = k) (hl : (own, ix, y, host) ∈ jj_nest) (hdd : d' + 1 ≤ d) (hn' : n' ≤ 41) (hst : stk = As.reverse ++ st) (hcat : (st.map fun v => v.category).sum ≤ 8) (hd : jd cc pc (.invokestatic ix) 3 pc') (kk : ∀ q : τ, J V E fin (K q) pc' L (st) (e q)) : J V E fin (o1.bind K) pc L stk X := J_invN hE hC hm hsta hk hl hdd hn' hst hcat hd (fun q _ => kk q)
end CK
end
section
abbrev r_X0 : vw_C := (RX0, TX0, 6)
def fs_X0 (t : Nat) (a : Nat → Nat) (S : M2) : List Value := [.ref t, .ref (a 1), .ref (a 2), .int (S 3 0), .int (S 4 0), .int (S 5 0)]
def sc_X0 : List Nat := [3, 4, 5]
def ar_X0 : List (Nat × Nat × FieldType) := [(1, 5, .int), (2, 5, .int)]
theorem jc_X0 : jcl r_X0 tyX0 := ⟨fun w hw => jj_m (by revert w hw; decide +kernel) (by revert w hw; decide +kernel), tyX0_ok, nmX0⟩
abbrev r_X1 : vw_C := (RX1, TX1, 18)
def fs_X1 (a : Nat → Nat) (S : M2) : List Value := [.int (S 0 0), .ref (a 1), .ref (a 2), .ref (a 3), .int (S 4 0), .ref (a 5), .ref (a 6), .int (S 7 0), .ref (a 8), .ref (a 9), .ref (a 10), .ref (a 11), .int (S 12 0), .int (S 13 0), .int (S 14 0), .int (S 15 0), .ref (a 16), .ref (a 17)]
def sc_X1 : List Nat := [0, 4, 7, 12, 13, 14, 15]
def ar_X1 : List (Nat × Nat × FieldType) := [(1, 5, .int), (2, 5, .int), (3, 5, .int), (5, 15, .int), (6, 3, .int), (8, 4, .int), (9, 4, .int), (10, 4, .int), (11, 4, .int), (16, 6, .int), (17, 6, .int)]
theorem jc_X1 : jcl r_X1 tyX1 := ⟨fun w hw => jj_m (by revert w hw; decide +kernel) (by revert w hw; decide +kernel), tyX1_ok, nmX1⟩
abbrev r_X2 : vw_C := (RX2, TX2, 4)
def fs_X2 (a : Nat → Nat) (S : M2) : List Value := [.int (S 0 0), .int (S 1 0), .int (S 2 0), .ref (a 3)]
def sc_X2 : List Nat := [0, 1, 2]
def ar_X2 : List (Nat × Nat × FieldType) := [(3, 40, .int)]
theorem jc_X2 : jcl r_X2 tyX2 := ⟨fun w hw => jj_m (by revert w hw; decide +kernel) (by revert w hw; decide +kernel), tyX2_ok, nmX2⟩
abbrev r_X3 : vw_C := (RX3, TX3, 11)
def fs_X3 (a : Nat → Nat) (S : M2) : List Value := [.ref (a 0), .int (S 1 0), .int (S 2 0), .int (S 3 0), .ref (a 4), .int (S 5 0), .int (S 6 0), .int (S 7 0), .int (S 8 0), .int (S 9 0), .int (S 10 0)]
def sc_X3 : List Nat := [1, 2, 3, 5, 6, 7, 8, 9, 10]
def ar_X3 : List (Nat × Nat × FieldType) := [(0, 160, .int), (4, 3, .int)]
theorem jc_X3 : jcl r_X3 tyX3 := ⟨fun w hw => jj_m (by revert w hw; decide +kernel) (by revert w hw; decide +kernel), tyX3_ok, nmX3⟩
abbrev r_X4 : vw_C := (RX4, TX4, 8)
def fs_X4 (ob : Nat → Nat) (a : Nat → Nat) (S : M2) : List Value := [.ref (ob 1), .ref (ob 2), .ref (ob 3), .ref (a 3), .ref (a 4), .ref (ob 10), .int (S 6 0), .int (S 7 0)]
def sc_X4 : List Nat := [6, 7]
def ar_X4 : List (Nat × Nat × FieldType) := []
theorem jc_X4 : jcl r_X4 tyX4 := ⟨fun w hw => jj_m (by revert w hw; decide +kernel) (by revert w hw; decide +kernel), tyX4_ok, nmX4⟩
abbrev r_X5 : vw_C := (RX5, TX5, 25)
def fs_X5 (a : Nat → Nat) (S : M2) : List Value := [.ref (a 0), .ref (a 1), .ref (a 2), .int (S 3 0), .int (S 4 0), .ref (a 5), .int (S 6 0), .int (S 7 0), .int (S 8 0), .int (S 9 0), .int (S 10 0), .ref (a 11), .int (S 12 0), .int (S 13 0), .int (S 14 0), .int (S 15 0), .int (S 16 0), .int (S 17 0), .int (S 18 0), .ref (a 19), .ref (a 20), .ref (a 21), .ref (a 22), .int (S 23 0), .ref (a 24)]
def sc_X5 : List Nat := [3, 4, 6, 7, 8, 9, 10, 12, 13, 14, 15, 16, 17, 18, 23]
def ar_X5 : List (Nat × Nat × FieldType) := [(0, 186, .int), (1, 62, .int), (2, 2, .boolean), (5, 62, .int), (11, 160, .int), (19, 5, .int), (20, 4, .int), (21, 4, .int), (22, 160, .int), (24, 62, .int)]
theorem jc_X5 : jcl r_X5 tyX5 := ⟨fun w hw => jj_m (by revert w hw; decide +kernel) (by revert w hw; decide +kernel), tyX5_ok, nmX5⟩
abbrev vX1 (V : JV M2) (b : Nat) (a : Nat → Nat) : Prop := vOb V (fun S => S) (fun _ S => S) b a r_X1 fs_X1 sc_X1 ar_X1
abbrev vX2 (V : JV M2) (b : Nat) (a : Nat → Nat) : Prop := vOb V (fun S => S) (fun _ S => S) b a r_X2 fs_X2 sc_X2 ar_X2
abbrev vX3 (V : JV M2) (b : Nat) (a : Nat → Nat) : Prop := vOb V (fun S => S) (fun _ S => S) b a r_X3 fs_X3 sc_X3 ar_X3
abbrev vX5 (V : JV M2) (b : Nat) (a : Nat → Nat) : Prop := vOb V (fun S => S) (fun _ S => S) b a r_X5 fs_X5 sc_X5 ar_X5
abbrev rX1 {σ : Type} (V : JV σ) (b : Nat) (a : Nat → Nat) (N : M2) : Prop := rOb V b a r_X1 fs_X1 ar_X1 N
abbrev v1X3 (V : JV (M2 × M2)) (b : Nat) (a : Nat → Nat) : Prop := vOb V (fun X => X.1) (fun X T => (T, X.2)) b a r_X3 fs_X3 sc_X3 ar_X3
abbrev v1X0 (V : JV (M2 × M2)) (b : Nat) (a : Nat → Nat) (t : Nat) : Prop := vOb V (fun X => X.1) (fun X T => (T, X.2)) b a r_X0 (fs_X0 t) sc_X0 ar_X0
abbrev v2X1 (V : JV (M2 × M2)) (b : Nat) (a : Nat → Nat) : Prop := vOb V (fun X => X.2) (fun X S => (X.1, S)) b a r_X1 fs_X1 sc_X1 ar_X1
def isSh (k : Nat) : Prop := k = 2 ∨ k = 3 ∨ k = 4 ∨ k = 5 ∨ k = 11
def isSt (k : Nat) : Prop := k = 6 ∨ k = 7 ∨ k = 8 ∨ k = 9
abbrev M3 : Type := Nat → M2
/-- the whole object: block 0 itself, 1 the tape, 2 now, 3 trial, 4 and 5 the images, 6 to 9 the sheets, 10 the search, 11 its shed -/
def vX4 (V : JV M3) (ob : Nat → Nat) (aa : Nat → Nat → Nat) : Prop :=
  vOb V (fun X => X 0) (fun X S => va_up X 0 S) (ob 0) (aa 0) r_X4 (fs_X4 ob) sc_X4 ar_X4 ∧
  vOb V (fun X => X 1) (fun X S => va_up X 1 S) (ob 1) (aa 1) r_X3 fs_X3 sc_X3 ar_X3 ∧
  (∀ k, isSh k → vOb V (fun X => X k) (fun X S => va_up X k S) (ob k) (aa k) r_X1 fs_X1 sc_X1 ar_X1) ∧
  (∀ k, isSt k → vOb V (fun X => X k) (fun X S => va_up X k S) (ob k) (aa k) r_X2 fs_X2 sc_X2 ar_X2) ∧
  vOb V (fun X => X 10) (fun X S => va_up X 10 S) (ob 10) (aa 10) r_X0 (fs_X0 (ob 11)) sc_X0 ar_X0 ∧
  (∀ X, jQ V X (aa 0 3) 2 "MothCustoms$Shed" (fun j => some (ob (4 + j)))) ∧
  (∀ X, jQ V X (aa 0 4) 4 "MothCustoms$Sheet" (fun j => some (ob (6 + j))))
section V4
variable {V : JV M3} {ob : Nat → Nat} {aa : Nat → Nat → Nat}
theorem sh2 : isSh 2 := Or.inl rfl
theorem sh3 : isSh 3 := Or.inr (Or.inl rfl)
theorem sh11 : isSh 11 := Or.inr (Or.inr (Or.inr (Or.inr rfl)))
theorem shI {i : Int32} (h : ¬ (i < 0 ∨ 2 ≤ i.toNatClampNeg)) : isSh (4 + i.toNatClampNeg) := by
  have h2 : ¬ 2 ≤ i.toNatClampNeg := fun q => h (Or.inr q)
  unfold isSh
  omega
theorem stI {i : Int32} (h : ¬ (i < 0 ∨ 4 ≤ i.toNatClampNeg)) : isSt (6 + i.toNatClampNeg) := by
  have h2 : ¬ 4 ≤ i.toNatClampNeg := fun q => h (Or.inr q)
  unfold isSt
  omega
theorem shI2 {i : Int32} : 2 ≠ 4 + i.toNatClampNeg := by omega
theorem shI2' {i : Int32} : 4 + i.toNatClampNeg ≠ 2 := by omega
theorem st6 : isSt 6 := Or.inl rfl
theorem vX4.rt (h : vX4 V ob aa) : vOb V (fun X => X 0) (fun X S => va_up X 0 S) (ob 0) (aa 0) r_X4 (fs_X4 ob) sc_X4 ar_X4 := h.1
theorem vX4.tp (h : vX4 V ob aa) : vOb V (fun X => X 1) (fun X S => va_up X 1 S) (ob 1) (aa 1) r_X3 fs_X3 sc_X3 ar_X3 := h.2.1
theorem vX4.sh (h : vX4 V ob aa) {k : Nat} (hk : isSh k) : vOb V (fun X => X k) (fun X S => va_up X k S) (ob k) (aa k) r_X1 fs_X1 sc_X1 ar_X1 := h.2.2.1 k hk
theorem vX4.st (h : vX4 V ob aa) {k : Nat} (hk : isSt k) : vOb V (fun X => X k) (fun X S => va_up X k S) (ob k) (aa k) r_X2 fs_X2 sc_X2 ar_X2 := h.2.2.2.1 k hk
theorem vX4.sr (h : vX4 V ob aa) : vOb V (fun X => X 10) (fun X S => va_up X 10 S) (ob 10) (aa 10) r_X0 (fs_X0 (ob 11)) sc_X0 ar_X0 := h.2.2.2.2.1
theorem vX4.im (h : vX4 V ob aa) (X : M3) : jQ V X (aa 0 3) 2 "MothCustoms$Shed" (fun j => some (ob (4 + j))) := h.2.2.2.2.2.1 X
theorem vX4.ss (h : vX4 V ob aa) (X : M3) : jQ V X (aa 0 4) 4 "MothCustoms$Sheet" (fun j => some (ob (6 + j))) := h.2.2.2.2.2.2 X
theorem vX4.shS (h : vX4 V ob aa) (X : M3) {k : Nat} (hk : isSh k) : vX1 (jj_sub V (fun S => va_up X k S)) (ob k) (aa k) := (h.sh hk).sub (fun S => va_up_self X k S) (fun S S' => va_up_up X k S S')
theorem vX4.shR (h : vX4 V ob aa) (X : M3) (k : Nat) {k2 : Nat} (hk : isSh k2) (hne : k2 ≠ k) : rX1 (jj_sub V (fun S => va_up X k S)) (ob k2) (aa k2) (X k2) := (h.sh hk).read (fun S => va_up_ne X S hne)
theorem vX4.stS (h : vX4 V ob aa) (X : M3) {k : Nat} (hk : isSt k) : vX2 (jj_sub V (fun S => va_up X k S)) (ob k) (aa k) := (h.st hk).sub (fun S => va_up_self X k S) (fun S S' => va_up_up X k S S')
theorem vX4.tpS (h : vX4 V ob aa) (X : M3) : vX3 (jj_sub V (fun S => va_up X 1 S)) (ob 1) (aa 1) := h.tp.sub (fun S => va_up_self X 1 S) (fun S S' => va_up_up X 1 S S')
theorem e2_1 {X : M3} {j k : Nat} (h : j ≠ k) (p : M2 × M2) : va_up (va_up X j p.1) k p.2 j = p.1 := by rw [va_up_ne _ _ h, va_up_self]
theorem e2_2 {X : M3} {j k : Nat} (h : j ≠ k) (p : M2 × M2) (S : M2) : va_up (va_up (va_up X j p.1) k p.2) j S = va_up (va_up X j S) k p.2 := by rw [va_up_comm _ (Ne.symm h), va_up_up]
theorem vX4.tp1 (h : vX4 V ob aa) (X : M3) : v1X3 (jj_sub V (fun p : M2 × M2 => va_up (va_up X 1 p.1) 3 p.2)) (ob 1) (aa 1) := h.tp.sub (fun p => e2_1 (by decide) p) (fun p S => e2_2 (by decide) p S)
theorem vX4.tp2 (h : vX4 V ob aa) (X : M3) : v2X1 (jj_sub V (fun p : M2 × M2 => va_up (va_up X 1 p.1) 3 p.2)) (ob 3) (aa 3) := (h.sh sh3).sub (fun p => va_up_self _ 3 _) (fun p S => va_up_up _ 3 _ S)
theorem vX4.sr1 (h : vX4 V ob aa) (X : M3) : v1X0 (jj_sub V (fun p : M2 × M2 => va_up (va_up X 10 p.1) 11 p.2)) (ob 10) (aa 10) (ob 11) := h.sr.sub (fun p => e2_1 (by decide) p) (fun p S => e2_2 (by decide) p S)
theorem vX4.sr2 (h : vX4 V ob aa) (X : M3) : v2X1 (jj_sub V (fun p : M2 × M2 => va_up (va_up X 10 p.1) 11 p.2)) (ob 11) (aa 11) := (h.sh sh11).sub (fun p => va_up_self _ 11 _) (fun p S => va_up_up _ 11 _ S)
theorem vX4.sr3 (h : vX4 V ob aa) (X : M3) : rX1 (jj_sub V (fun p : M2 × M2 => va_up (va_up X 10 p.1) 11 p.2)) (ob 2) (aa 2) (X 2) := (h.sh sh2).read (fun p => by rw [va_up_ne _ _ (by decide), va_up_ne _ _ (by decide)])
end V4
section VP
variable {V : JV (M2 × M2)} {b : Nat} {a : Nat → Nat} {t : Nat} {N : M2}
theorem v1X3s (h : v1X3 V b a) (S : M2) : vX3 (jj_sub V (fun T => (T, S))) b a := h.sub (fun _ => rfl) (fun _ _ => rfl)
theorem v2X1s (h : v2X1 V b a) (T : M2) : vX1 (jj_sub V (fun S => (T, S))) b a := h.sub (fun _ => rfl) (fun _ _ => rfl)
theorem rX1s (h : rX1 V b a N) (T : M2) : rX1 (jj_sub V (fun S => (T, S))) b a N := h.sub
end VP
end
section
theorem dd_X4_within_0 : jd cX4_within 0 (.iload_n 0) 1 1 := ⟨by decide +kernel, rfl⟩
theorem dd_X4_within_1 : jd cX4_within 1 (.iload_n 1) 1 2 := ⟨by decide +kernel, rfl⟩
theorem dd_X4_within_14 : jd cX4_within 14 (.iconst 0) 1 15 := ⟨by decide +kernel, rfl⟩
theorem dd_X4_within_15 : jd cX4_within 15 (.ireturn) 1 16 := ⟨by decide +kernel, rfl⟩
theorem dd_X4_within_5 : jd cX4_within 5 (.iload_n 0) 1 6 := ⟨by decide +kernel, rfl⟩
theorem dd_X4_within_6 : jd cX4_within 6 (.iload_n 2) 1 7 := ⟨by decide +kernel, rfl⟩
theorem dd_X4_within_10 : jd cX4_within 10 (.iconst 1) 1 11 := ⟨by decide +kernel, rfl⟩
theorem dd_X4_within_11 : jd cX4_within 11 (.goto 4) 3 14 := ⟨by decide +kernel, rfl⟩
theorem dd_X4_within_7 : jd cX4_within 7 (.if_icmp .gt 7) 3 10 := ⟨by decide +kernel, rfl⟩
theorem dd_X4_within_2 : jd cX4_within 2 (.if_icmp .lt 12) 3 5 := ⟨by decide +kernel, rfl⟩
theorem m_X4_within : jmS yX4_within cX4_within 3 (some .boolean) 3 := ⟨(jj_m (w := Cond.code yX4_within cX4_within 3 (some .boolean)) (List.mem_of_getElem? (i := 299) (by decide +kernel)) rfl), (jj_m (w := Cond.initialized yX4_within.cls) (List.mem_of_getElem? (i := 64) (by decide +kernel)) rfl), ⟨by decide, by decide⟩, by decide +kernel⟩
theorem s_X4_within : (Cond.static yX4_within : Cond) ∈ jj_tb := (jj_m (w := Cond.static yX4_within) (List.mem_of_getElem? (i := 298) (by decide +kernel)) rfl)
def fX4_within (i0 : Int32) (i1 : Int32) (i2 : Int32)  : Option (Int32) :=
  if i0 < i1 then
    some (0 : Int32)
  else
    if i2 < i0 then
      some (0 : Int32)
    else
      some (1 : Int32)

set_option maxHeartbeats 4000000 in
set_option maxRecDepth 100000 in
theorem tX4_within (l : Launch) {σ : Type} (V : JV σ) (X : σ)  (i0 : Int32) (i1 : Int32) (i2 : Int32) : JC l V yX4_within cX4_within 3 (some .boolean) jj_i 0 [.int i0, .int i1, .int i2] X ((fX4_within i0 i1 i2 ).map (fun r => (r, X))) := by
  refine jj_of (by decide) (Nat.le_of_ble_eq_true rfl) (fun E hlE hE => ?_)
  unfold fX4_within
  refine J_sub (L' := [(0, .int i0), (1, .int i1), (2, .int i2)]) [0, 1, 2] rfl ?_
  refine J_iload_n hE dd_X4_within_0 0 rfl rfl ?_
  refine J_iload_n hE dd_X4_within_1 1 rfl rfl ?_
  refine J_icmp_lt hE (tgt := 14) dd_X4_within_2 (by decide) (fun c2 => ?_) (fun c2 => ?_)
  · refine J_iconst hE (v := (0 : Int32)) dd_X4_within_14 (by decide) ?_
    exact J_zret hE (Or.inl rfl) dd_X4_within_15 rfl rfl
  · refine J_iload_n hE dd_X4_within_5 0 rfl rfl ?_
    refine J_iload_n hE dd_X4_within_6 2 rfl rfl ?_
    refine J_icmp_gt hE (tgt := 14) dd_X4_within_7 (by decide) (fun c1 => ?_) (fun c1 => ?_)
    · refine J_iconst hE (v := (0 : Int32)) dd_X4_within_14 (by decide) ?_
      exact J_zret hE (Or.inl rfl) dd_X4_within_15 rfl rfl
    · refine J_iconst hE (v := (1 : Int32)) dd_X4_within_10 (by decide) ?_
      refine J_goto hE (tgt := 15) dd_X4_within_11 (by decide) ?_
      exact J_zret hE (Or.inr rfl) dd_X4_within_15 rfl rfl
theorem dd_X4_isBale_0 : jd cX4_isBale 0 (.iload_n 0) 1 1 := ⟨by decide +kernel, rfl⟩
theorem dd_X4_isBale_1 : jd cX4_isBale 1 (.iconst 0) 1 2 := ⟨by decide +kernel, rfl⟩
theorem dd_X4_isBale_2 : jd cX4_isBale 2 (.iconst 2) 1 3 := ⟨by decide +kernel, rfl⟩
theorem ml_RX4_44 : (Cond.methodLink "MothCustoms" 44 yX4_within : Cond) ∈ jj_tb := jj_m (List.mem_of_getElem? (i := 297) (by decide +kernel)) rfl
theorem dd_X4_isBale_3 : jd cX4_isBale 3 (.invokestatic 44) 3 6 := ⟨by decide +kernel, rfl⟩
theorem dd_X4_isBale_6 : jd cX4_isBale 6 (.ireturn) 1 7 := ⟨by decide +kernel, rfl⟩
theorem m_X4_isBale : jmS yX4_isBale cX4_isBale 1 (some .boolean) 1 := ⟨(jj_m (w := Cond.code yX4_isBale cX4_isBale 1 (some .boolean)) (List.mem_of_getElem? (i := 523) (by decide +kernel)) rfl), (jj_m (w := Cond.initialized yX4_isBale.cls) (List.mem_of_getElem? (i := 64) (by decide +kernel)) rfl), ⟨by decide, by decide⟩, by decide +kernel⟩
theorem s_X4_isBale : (Cond.static yX4_isBale : Cond) ∈ jj_tb := (jj_m (w := Cond.static yX4_isBale) (List.mem_of_getElem? (i := 522) (by decide +kernel)) rfl)
def fX4_isBale (i0 : Int32)  : Option (Int32) :=
  (fX4_within i0 (0 : Int32) (2 : Int32)).bind fun r1 =>
  zb r1 (some r1)

set_option maxHeartbeats 4000000 in
set_option maxRecDepth 100000 in
theorem tX4_isBale (l : Launch) {σ : Type} (V : JV σ) (X : σ)  (i0 : Int32) : JC l V yX4_isBale cX4_isBale 1 (some .boolean) jj_i 1 [.int i0] X ((fX4_isBale i0 ).map (fun r => (r, X))) := by
  refine jj_of (by decide) (Nat.le_of_ble_eq_true rfl) (fun E hlE hE => ?_)
  unfold fX4_isBale
  refine J_sub (L' := [(0, .int i0)]) [0] rfl ?_
  refine J_iload_n hE dd_X4_isBale_0 0 rfl rfl ?_
  refine J_iconst hE (v := (0 : Int32)) dd_X4_isBale_1 (by decide) ?_
  refine J_iconst hE (v := (2 : Int32)) dd_X4_isBale_2 (by decide) ?_
  refine J_invSri hE (As := [.int i0, .int (0 : Int32), .int (2 : Int32)]) (st := []) (tX4_within E.2.1 V X i0 (0 : Int32) (2 : Int32)) m_X4_within s_X4_within rfl ml_RX4_44 (Nat.le_of_ble_eq_true rfl) (Nat.le_of_ble_eq_true rfl) rfl (Nat.le_of_ble_eq_true rfl) dd_X4_isBale_3 (fun r1 => ?_)
  refine J_zb (fun hz => ?_)
  exact J_zret hE hz dd_X4_isBale_6 rfl rfl
theorem dd_X4_isSheet_0 : jd cX4_isSheet 0 (.iload_n 0) 1 1 := ⟨by decide +kernel, rfl⟩
theorem dd_X4_isSheet_1 : jd cX4_isSheet 1 (.iconst 0) 1 2 := ⟨by decide +kernel, rfl⟩
theorem dd_X4_isSheet_2 : jd cX4_isSheet 2 (.iconst 3) 1 3 := ⟨by decide +kernel, rfl⟩
theorem dd_X4_isSheet_3 : jd cX4_isSheet 3 (.invokestatic 44) 3 6 := ⟨by decide +kernel, rfl⟩
theorem dd_X4_isSheet_6 : jd cX4_isSheet 6 (.ireturn) 1 7 := ⟨by decide +kernel, rfl⟩
theorem m_X4_isSheet : jmS yX4_isSheet cX4_isSheet 1 (some .boolean) 1 := ⟨(jj_m (w := Cond.code yX4_isSheet cX4_isSheet 1 (some .boolean)) (List.mem_of_getElem? (i := 743) (by decide +kernel)) rfl), (jj_m (w := Cond.initialized yX4_isSheet.cls) (List.mem_of_getElem? (i := 64) (by decide +kernel)) rfl), ⟨by decide, by decide⟩, by decide +kernel⟩
theorem s_X4_isSheet : (Cond.static yX4_isSheet : Cond) ∈ jj_tb := (jj_m (w := Cond.static yX4_isSheet) (List.mem_of_getElem? (i := 742) (by decide +kernel)) rfl)
def fX4_isSheet (i0 : Int32)  : Option (Int32) :=
  (fX4_within i0 (0 : Int32) (3 : Int32)).bind fun r1 =>
  zb r1 (some r1)

set_option maxHeartbeats 4000000 in
set_option maxRecDepth 100000 in
theorem tX4_isSheet (l : Launch) {σ : Type} (V : JV σ) (X : σ)  (i0 : Int32) : JC l V yX4_isSheet cX4_isSheet 1 (some .boolean) jj_i 1 [.int i0] X ((fX4_isSheet i0 ).map (fun r => (r, X))) := by
  refine jj_of (by decide) (Nat.le_of_ble_eq_true rfl) (fun E hlE hE => ?_)
  unfold fX4_isSheet
  refine J_sub (L' := [(0, .int i0)]) [0] rfl ?_
  refine J_iload_n hE dd_X4_isSheet_0 0 rfl rfl ?_
  refine J_iconst hE (v := (0 : Int32)) dd_X4_isSheet_1 (by decide) ?_
  refine J_iconst hE (v := (3 : Int32)) dd_X4_isSheet_2 (by decide) ?_
  refine J_invSri hE (As := [.int i0, .int (0 : Int32), .int (3 : Int32)]) (st := []) (tX4_within E.2.1 V X i0 (0 : Int32) (3 : Int32)) m_X4_within s_X4_within rfl ml_RX4_44 (Nat.le_of_ble_eq_true rfl) (Nat.le_of_ble_eq_true rfl) rfl (Nat.le_of_ble_eq_true rfl) dd_X4_isSheet_3 (fun r1 => ?_)
  refine J_zb (fun hz => ?_)
  exact J_zret hE hz dd_X4_isSheet_6 rfl rfl
theorem dd_X4_isLane_0 : jd cX4_isLane 0 (.iload_n 0) 1 1 := ⟨by decide +kernel, rfl⟩
theorem dd_X4_isLane_1 : jd cX4_isLane 1 (.iconst 0) 1 2 := ⟨by decide +kernel, rfl⟩
theorem dd_X4_isLane_2 : jd cX4_isLane 2 (.iconst 2) 1 3 := ⟨by decide +kernel, rfl⟩
theorem dd_X4_isLane_3 : jd cX4_isLane 3 (.invokestatic 44) 3 6 := ⟨by decide +kernel, rfl⟩
theorem dd_X4_isLane_6 : jd cX4_isLane 6 (.ireturn) 1 7 := ⟨by decide +kernel, rfl⟩
theorem m_X4_isLane : jmS yX4_isLane cX4_isLane 1 (some .boolean) 1 := ⟨(jj_m (w := Cond.code yX4_isLane cX4_isLane 1 (some .boolean)) (List.mem_of_getElem? (i := 746) (by decide +kernel)) rfl), (jj_m (w := Cond.initialized yX4_isLane.cls) (List.mem_of_getElem? (i := 64) (by decide +kernel)) rfl), ⟨by decide, by decide⟩, by decide +kernel⟩
theorem s_X4_isLane : (Cond.static yX4_isLane : Cond) ∈ jj_tb := (jj_m (w := Cond.static yX4_isLane) (List.mem_of_getElem? (i := 745) (by decide +kernel)) rfl)
def fX4_isLane (i0 : Int32)  : Option (Int32) :=
  (fX4_within i0 (0 : Int32) (2 : Int32)).bind fun r1 =>
  zb r1 (some r1)

set_option maxHeartbeats 4000000 in
set_option maxRecDepth 100000 in
theorem tX4_isLane (l : Launch) {σ : Type} (V : JV σ) (X : σ)  (i0 : Int32) : JC l V yX4_isLane cX4_isLane 1 (some .boolean) jj_i 1 [.int i0] X ((fX4_isLane i0 ).map (fun r => (r, X))) := by
  refine jj_of (by decide) (Nat.le_of_ble_eq_true rfl) (fun E hlE hE => ?_)
  unfold fX4_isLane
  refine J_sub (L' := [(0, .int i0)]) [0] rfl ?_
  refine J_iload_n hE dd_X4_isLane_0 0 rfl rfl ?_
  refine J_iconst hE (v := (0 : Int32)) dd_X4_isLane_1 (by decide) ?_
  refine J_iconst hE (v := (2 : Int32)) dd_X4_isLane_2 (by decide) ?_
  refine J_invSri hE (As := [.int i0, .int (0 : Int32), .int (2 : Int32)]) (st := []) (tX4_within E.2.1 V X i0 (0 : Int32) (2 : Int32)) m_X4_within s_X4_within rfl ml_RX4_44 (Nat.le_of_ble_eq_true rfl) (Nat.le_of_ble_eq_true rfl) rfl (Nat.le_of_ble_eq_true rfl) dd_X4_isLane_3 (fun r1 => ?_)
  refine J_zb (fun hz => ?_)
  exact J_zret hE hz dd_X4_isLane_6 rfl rfl
theorem dd_X4_mostOfTrait_0 : jd cX4_mostOfTrait 0 (.iload_n 0) 1 1 := ⟨by decide +kernel, rfl⟩
theorem dd_X4_mostOfTrait_28 : jd cX4_mostOfTrait 28 (.iconst 3) 1 29 := ⟨by decide +kernel, rfl⟩
theorem dd_X4_mostOfTrait_29 : jd cX4_mostOfTrait 29 (.ireturn) 1 30 := ⟨by decide +kernel, rfl⟩
theorem dd_X4_mostOfTrait_30 : jd cX4_mostOfTrait 30 (.iconst 5) 1 31 := ⟨by decide +kernel, rfl⟩
theorem dd_X4_mostOfTrait_31 : jd cX4_mostOfTrait 31 (.ireturn) 1 32 := ⟨by decide +kernel, rfl⟩
theorem dd_X4_mostOfTrait_32 : jd cX4_mostOfTrait 32 (.bipush 9) 2 34 := ⟨by decide +kernel, rfl⟩
theorem dd_X4_mostOfTrait_34 : jd cX4_mostOfTrait 34 (.ireturn) 1 35 := ⟨by decide +kernel, rfl⟩
theorem dd_X4_mostOfTrait_35 : jd cX4_mostOfTrait 35 (.iconst 2) 1 36 := ⟨by decide +kernel, rfl⟩
theorem dd_X4_mostOfTrait_36 : jd cX4_mostOfTrait 36 (.ireturn) 1 37 := ⟨by decide +kernel, rfl⟩
theorem dd_X4_mostOfTrait_1 : jd cX4_mostOfTrait 1 (.tableswitch 34 0 2 #[27, 29, 31]) 27 28 := ⟨by decide +kernel, rfl⟩
theorem m_X4_mostOfTrait : jmS yX4_mostOfTrait cX4_mostOfTrait 1 (some .int) 1 := ⟨(jj_m (w := Cond.code yX4_mostOfTrait cX4_mostOfTrait 1 (some .int)) (List.mem_of_getElem? (i := 415) (by decide +kernel)) rfl), (jj_m (w := Cond.initialized yX4_mostOfTrait.cls) (List.mem_of_getElem? (i := 64) (by decide +kernel)) rfl), ⟨by decide, by decide⟩, by decide +kernel⟩
theorem s_X4_mostOfTrait : (Cond.static yX4_mostOfTrait : Cond) ∈ jj_tb := (jj_m (w := Cond.static yX4_mostOfTrait) (List.mem_of_getElem? (i := 414) (by decide +kernel)) rfl)
def fX4_mostOfTrait (i0 : Int32)  : Option (Int32) :=
  if i0 = 0 then
    some (3 : Int32)
  else
    if i0 = 1 then
      some (5 : Int32)
    else
      if i0 = 2 then
        some (9 : Int32)
      else
        some (2 : Int32)

set_option maxHeartbeats 4000000 in
set_option maxRecDepth 100000 in
theorem tX4_mostOfTrait (l : Launch) {σ : Type} (V : JV σ) (X : σ)  (i0 : Int32) : JC l V yX4_mostOfTrait cX4_mostOfTrait 1 (some .int) jj_i 0 [.int i0] X ((fX4_mostOfTrait i0 ).map (fun r => (r, X))) := by
  refine jj_of (by decide) (Nat.le_of_ble_eq_true rfl) (fun E hlE hE => ?_)
  unfold fX4_mostOfTrait
  refine J_sub (L' := [(0, .int i0)]) [0] rfl ?_
  refine J_iload_n hE dd_X4_mostOfTrait_0 0 rfl rfl ?_
  refine J_ite (fun c1 => ?_) (fun c1 => ?_)
  · refine J_tsAt hE c1 (off := 27) (tgt := 28) dd_X4_mostOfTrait_1 (by decide) (by decide) (by decide) (by decide) ?_
    refine J_iconst hE (v := (3 : Int32)) dd_X4_mostOfTrait_28 (by decide) ?_
    exact J_iret hE dd_X4_mostOfTrait_29 rfl rfl
  · refine J_ite (fun c2 => ?_) (fun c2 => ?_)
    · refine J_tsAt hE c2 (off := 29) (tgt := 30) dd_X4_mostOfTrait_1 (by decide) (by decide) (by decide) (by decide) ?_
      refine J_iconst hE (v := (5 : Int32)) dd_X4_mostOfTrait_30 (by decide) ?_
      exact J_iret hE dd_X4_mostOfTrait_31 rfl rfl
    · refine J_ite (fun c3 => ?_) (fun c3 => ?_)
      · refine J_tsAt hE c3 (off := 31) (tgt := 32) dd_X4_mostOfTrait_1 (by decide) (by decide) (by decide) (by decide) ?_
        refine J_bipush hE (v := (9 : Int32)) dd_X4_mostOfTrait_32 (by decide) ?_
        exact J_iret hE dd_X4_mostOfTrait_34 rfl rfl
      · refine J_tsOut hE (tgt := 35) dd_X4_mostOfTrait_1 (by have e0 : ¬ (i0).toInt = 0 := fun q => c1 (Int32.toInt_inj.mp (q.trans (by decide))); have e1 : ¬ (i0).toInt = 1 := fun q => c2 (Int32.toInt_inj.mp (q.trans (by decide))); have e2 : ¬ (i0).toInt = 2 := fun q => c3 (Int32.toInt_inj.mp (q.trans (by decide))); omega) (by decide) ?_
        refine J_iconst hE (v := (2 : Int32)) dd_X4_mostOfTrait_35 (by decide) ?_
        exact J_iret hE dd_X4_mostOfTrait_36 rfl rfl
theorem dd_X4_commonDivisor_0 : jd cX4_commonDivisor 0 (.iconst 0) 1 1 := ⟨by decide +kernel, rfl⟩
theorem dd_X4_commonDivisor_1 : jd cX4_commonDivisor 1 (.istore 4) 2 3 := ⟨by decide +kernel, rfl⟩
theorem dd_X4_commonDivisor_3 : jd cX4_commonDivisor 3 (.iload 4) 2 5 := ⟨by decide +kernel, rfl⟩
theorem dd_X4_commonDivisor_5 : jd cX4_commonDivisor 5 (.sipush 200) 3 8 := ⟨by decide +kernel, rfl⟩
theorem dd_X4_commonDivisor_11 : jd cX4_commonDivisor 11 (.lload_n 2) 1 12 := ⟨by decide +kernel, rfl⟩
theorem dd_X4_commonDivisor_12 : jd cX4_commonDivisor 12 (.lconst 0) 1 13 := ⟨by decide +kernel, rfl⟩
theorem dd_X4_commonDivisor_13 : jd cX4_commonDivisor 13 (.lcmp) 1 14 := ⟨by decide +kernel, rfl⟩
theorem dd_X4_commonDivisor_17 : jd cX4_commonDivisor 17 (.lload_n 0) 1 18 := ⟨by decide +kernel, rfl⟩
theorem dd_X4_commonDivisor_18 : jd cX4_commonDivisor 18 (.lload_n 2) 1 19 := ⟨by decide +kernel, rfl⟩
theorem dd_X4_commonDivisor_19 : jd cX4_commonDivisor 19 (.lrem) 1 20 := ⟨by decide +kernel, rfl⟩
theorem dd_X4_commonDivisor_20 : jd cX4_commonDivisor 20 (.lstore 5) 2 22 := ⟨by decide +kernel, rfl⟩
theorem dd_X4_commonDivisor_22 : jd cX4_commonDivisor 22 (.lload_n 2) 1 23 := ⟨by decide +kernel, rfl⟩
theorem dd_X4_commonDivisor_23 : jd cX4_commonDivisor 23 (.lstore_n 0) 1 24 := ⟨by decide +kernel, rfl⟩
theorem dd_X4_commonDivisor_24 : jd cX4_commonDivisor 24 (.lload 5) 2 26 := ⟨by decide +kernel, rfl⟩
theorem dd_X4_commonDivisor_26 : jd cX4_commonDivisor 26 (.lstore_n 2) 1 27 := ⟨by decide +kernel, rfl⟩
theorem dd_X4_commonDivisor_27 : jd cX4_commonDivisor 27 (.iinc 4 1) 3 30 := ⟨by decide +kernel, rfl⟩
theorem dd_X4_commonDivisor_30 : jd cX4_commonDivisor 30 (.goto (-27)) 3 33 := ⟨by decide +kernel, rfl⟩
theorem dd_X4_commonDivisor_14 : jd cX4_commonDivisor 14 (.ifCond .eq 19) 3 17 := ⟨by decide +kernel, rfl⟩
theorem dd_X4_commonDivisor_8 : jd cX4_commonDivisor 8 (.if_icmp .ge 25) 3 11 := ⟨by decide +kernel, rfl⟩
theorem dd_X4_commonDivisor_33 : jd cX4_commonDivisor 33 (.lload_n 0) 1 34 := ⟨by decide +kernel, rfl⟩
theorem dd_X4_commonDivisor_34 : jd cX4_commonDivisor 34 (.lreturn) 1 35 := ⟨by decide +kernel, rfl⟩
theorem m_X4_commonDivisor : jmS yX4_commonDivisor cX4_commonDivisor 7 (some .long) 2 := ⟨(jj_m (w := Cond.code yX4_commonDivisor cX4_commonDivisor 7 (some .long)) (List.mem_of_getElem? (i := 680) (by decide +kernel)) rfl), (jj_m (w := Cond.initialized yX4_commonDivisor.cls) (List.mem_of_getElem? (i := 64) (by decide +kernel)) rfl), ⟨by decide, by decide⟩, by decide +kernel⟩
theorem s_X4_commonDivisor : (Cond.static yX4_commonDivisor : Cond) ∈ jj_tb := (jj_m (w := Cond.static yX4_commonDivisor) (List.mem_of_getElem? (i := 679) (by decide +kernel)) rfl)
def fX4_commonDivisor_L3  (k33 : Int64 → Option (Int64)) : Nat → Int64 → Int64 → Int32 → Option (Int64)
  | 0, _, _, _ => none
  | n_ + 1, w1, w2, v3 =>
    if (200 : Int32) ≤ v3 then
      k33 w1
    else
      if (lg_cmp w2 (0 : Int64)) = 0 then
        k33 w1
      else
        if w2 = 0 then none else
        lt ((w1 - w1 / w2 * w2)) fun y4 =>
        lt (v3 + (1 : Int32)) fun x5 =>
        fX4_commonDivisor_L3 k33 n_ w2 y4 x5

def fX4_commonDivisor (l0 : Int64) (l2 : Int64)  : Option (Int64) :=
  fX4_commonDivisor_L3 
    (fun p8 =>
      some p8)
    400 l0 l2 (0 : Int32)

set_option maxHeartbeats 4000000 in
set_option maxRecDepth 100000 in
theorem tX4_commonDivisor_L3 {σ : Type} (V : JV σ) (X : σ)  {E : JE (σ) Int64} (hE : JOk V E cX4_commonDivisor yX4_commonDivisor.cls 7 0 (some .long) jj_l) {k33 : Int64 → Option (Int64)} (hk33 : ∀ p, J V E (fun r => (r, X)) (k33 p) 33 [(0, .long p)] [] X) : ∀ (n_ : Nat) (w1 : Int64) (w2 : Int64) (v3 : Int32), J V E (fun r => (r, X)) (fX4_commonDivisor_L3 k33 n_ w1 w2 v3) 3 [(0, .long w1), (2, .long w2), (4, .int v3)] [] X := by
  intro n_
  induction n_ with
  | zero =>
    intros
    exact J_none
  | succ n_ ih =>
    intros w1 w2 v3
    rw [fX4_commonDivisor_L3]
    refine J_iload hE dd_X4_commonDivisor_3 2 rfl ?_
    refine J_sipush hE (v := (200 : Int32)) dd_X4_commonDivisor_5 (by decide) ?_
    refine J_icmp_ge hE (tgt := 33) dd_X4_commonDivisor_8 (by decide) (fun c7 => ?_) (fun c7 => ?_)
    · refine J_sub [0] rfl ?_
      exact hk33 w1
    · refine J_lload_n hE dd_X4_commonDivisor_11 1 rfl rfl ?_
      refine J_lconst hE (v := (0 : Int64)) dd_X4_commonDivisor_12 (by decide) ?_
      refine J_lcmp hE dd_X4_commonDivisor_13 ?_
      refine J_if_eq hE (tgt := 33) dd_X4_commonDivisor_14 (by decide) (fun c6 => ?_) (fun c6 => ?_)
      · refine J_sub [0] rfl ?_
        exact hk33 w1
      · refine J_lload_n hE dd_X4_commonDivisor_17 0 rfl rfl ?_
        refine J_lload_n hE dd_X4_commonDivisor_18 1 rfl rfl ?_
        refine J_lrem hE dd_X4_commonDivisor_19 (fun _ => ?_)
        refine J_letl (fun y4 => ?_)
        refine J_lstore hE (L' := [(5, .long y4), (0, .long w1), (2, .long w2), (4, .int v3)]) dd_X4_commonDivisor_20 (Nat.le_of_ble_eq_true rfl) rfl ?_
        refine J_lload_n hE dd_X4_commonDivisor_22 2 rfl rfl ?_
        refine J_lstore_n hE (L' := [(0, .long w2), (5, .long y4), (2, .long w2), (4, .int v3)]) dd_X4_commonDivisor_23 (Nat.le_of_ble_eq_true rfl) rfl rfl ?_
        refine J_lload hE dd_X4_commonDivisor_24 1 rfl ?_
        refine J_lstore_n hE (L' := [(2, .long y4), (0, .long w2), (5, .long y4), (4, .int v3)]) dd_X4_commonDivisor_26 (Nat.le_of_ble_eq_true rfl) rfl rfl ?_
        refine J_iincL hE (v := (v3 + (1 : Int32))) (Lf := fun x5 => [(4, .int x5), (2, .long y4), (0, .long w2), (5, .long y4)]) dd_X4_commonDivisor_27 (j := 3) rfl (congrArg (v3 + ·) (by decide)) (Nat.le_of_ble_eq_true rfl) (fun _ => rfl) (fun x5 => ?_)
        refine J_goto hE (tgt := 3) dd_X4_commonDivisor_30 (by decide) ?_
        refine J_sub [2, 1, 0] rfl ?_
        exact ih w2 y4 x5
set_option maxHeartbeats 4000000 in
set_option maxRecDepth 100000 in
theorem tX4_commonDivisor (l : Launch) {σ : Type} (V : JV σ) (X : σ)  (l0 : Int64) (l2 : Int64) : JC l V yX4_commonDivisor cX4_commonDivisor 7 (some .long) jj_l 0 [.long l0, .long l2] X ((fX4_commonDivisor l0 l2 ).map (fun r => (r, X))) := by
  refine jj_of (by decide) (Nat.le_of_ble_eq_true rfl) (fun E hlE hE => ?_)
  unfold fX4_commonDivisor
  refine J_sub (L' := [(0, .long l0), (2, .long l2)]) [0, 1] rfl ?_
  refine J_iconst hE (v := (0 : Int32)) dd_X4_commonDivisor_0 (by decide) ?_
  refine J_istore hE (L' := [(4, .int (0 : Int32)), (0, .long l0), (2, .long l2)]) dd_X4_commonDivisor_1 (Nat.le_of_ble_eq_true rfl) rfl ?_
  refine J_sub [1, 2, 0] rfl ?_
  refine tX4_commonDivisor_L3 V X  hE (fun p8 => ?_) 400 l0 l2 (0 : Int32)
  show J V E _ _ 33 [(0, .long p8)] [] X
  refine J_lload_n hE dd_X4_commonDivisor_33 0 rfl rfl ?_
  exact J_lret hE dd_X4_commonDivisor_34 rfl rfl
theorem dd_X5_in_0 : jd cX5_in 0 (.lload_n 0) 1 1 := ⟨by decide +kernel, rfl⟩
theorem dd_X5_in_1 : jd cX5_in 1 (.lload_n 2) 1 2 := ⟨by decide +kernel, rfl⟩
theorem dd_X5_in_2 : jd cX5_in 2 (.lcmp) 1 3 := ⟨by decide +kernel, rfl⟩
theorem dd_X5_in_17 : jd cX5_in 17 (.iconst 0) 1 18 := ⟨by decide +kernel, rfl⟩
theorem dd_X5_in_18 : jd cX5_in 18 (.ireturn) 1 19 := ⟨by decide +kernel, rfl⟩
theorem dd_X5_in_6 : jd cX5_in 6 (.lload_n 0) 1 7 := ⟨by decide +kernel, rfl⟩
theorem dd_X5_in_7 : jd cX5_in 7 (.lload 4) 2 9 := ⟨by decide +kernel, rfl⟩
theorem dd_X5_in_9 : jd cX5_in 9 (.lcmp) 1 10 := ⟨by decide +kernel, rfl⟩
theorem dd_X5_in_13 : jd cX5_in 13 (.iconst 1) 1 14 := ⟨by decide +kernel, rfl⟩
theorem dd_X5_in_14 : jd cX5_in 14 (.goto 4) 3 17 := ⟨by decide +kernel, rfl⟩
theorem dd_X5_in_10 : jd cX5_in 10 (.ifCond .gt 7) 3 13 := ⟨by decide +kernel, rfl⟩
theorem dd_X5_in_3 : jd cX5_in 3 (.ifCond .lt 14) 3 6 := ⟨by decide +kernel, rfl⟩
theorem m_X5_in : jmS yX5_in cX5_in 6 (some .boolean) 3 := ⟨(jj_m (w := Cond.code yX5_in cX5_in 6 (some .boolean)) (List.mem_of_getElem? (i := 889) (by decide +kernel)) rfl), (jj_m (w := Cond.initialized yX5_in.cls) (List.mem_of_getElem? (i := 69) (by decide +kernel)) rfl), ⟨by decide, by decide⟩, by decide +kernel⟩
theorem s_X5_in : (Cond.static yX5_in : Cond) ∈ jj_tb := (jj_m (w := Cond.static yX5_in) (List.mem_of_getElem? (i := 888) (by decide +kernel)) rfl)
def fX5_in (l0 : Int64) (l2 : Int64) (l4 : Int64)  : Option (Int32) :=
  if (lg_cmp l0 l2) < 0 then
    some (0 : Int32)
  else
    if 0 < (lg_cmp l0 l4) then
      some (0 : Int32)
    else
      some (1 : Int32)

set_option maxHeartbeats 4000000 in
set_option maxRecDepth 100000 in
theorem tX5_in (l : Launch) {σ : Type} (V : JV σ) (X : σ)  (l0 : Int64) (l2 : Int64) (l4 : Int64) : JC l V yX5_in cX5_in 6 (some .boolean) jj_i 0 [.long l0, .long l2, .long l4] X ((fX5_in l0 l2 l4 ).map (fun r => (r, X))) := by
  refine jj_of (by decide) (Nat.le_of_ble_eq_true rfl) (fun E hlE hE => ?_)
  unfold fX5_in
  refine J_sub (L' := [(0, .long l0), (2, .long l2), (4, .long l4)]) [0, 1, 2] rfl ?_
  refine J_lload_n hE dd_X5_in_0 0 rfl rfl ?_
  refine J_lload_n hE dd_X5_in_1 1 rfl rfl ?_
  refine J_lcmp hE dd_X5_in_2 ?_
  refine J_if_lt hE (tgt := 17) dd_X5_in_3 (by decide) (fun c2 => ?_) (fun c2 => ?_)
  · refine J_iconst hE (v := (0 : Int32)) dd_X5_in_17 (by decide) ?_
    exact J_zret hE (Or.inl rfl) dd_X5_in_18 rfl rfl
  · refine J_lload_n hE dd_X5_in_6 0 rfl rfl ?_
    refine J_lload hE dd_X5_in_7 2 rfl ?_
    refine J_lcmp hE dd_X5_in_9 ?_
    refine J_if_gt hE (tgt := 17) dd_X5_in_10 (by decide) (fun c1 => ?_) (fun c1 => ?_)
    · refine J_iconst hE (v := (0 : Int32)) dd_X5_in_17 (by decide) ?_
      exact J_zret hE (Or.inl rfl) dd_X5_in_18 rfl rfl
    · refine J_iconst hE (v := (1 : Int32)) dd_X5_in_13 (by decide) ?_
      refine J_goto hE (tgt := 18) dd_X5_in_14 (by decide) ?_
      exact J_zret hE (Or.inr rfl) dd_X5_in_18 rfl rfl
theorem dd_X5_flag_0 : jd cX5_flag 0 (.iload_n 0) 1 1 := ⟨by decide +kernel, rfl⟩
theorem dd_X5_flag_8 : jd cX5_flag 8 (.iconst 0) 1 9 := ⟨by decide +kernel, rfl⟩
theorem dd_X5_flag_9 : jd cX5_flag 9 (.ireturn) 1 10 := ⟨by decide +kernel, rfl⟩
theorem dd_X5_flag_4 : jd cX5_flag 4 (.iconst 1) 1 5 := ⟨by decide +kernel, rfl⟩
theorem dd_X5_flag_5 : jd cX5_flag 5 (.goto 4) 3 8 := ⟨by decide +kernel, rfl⟩
theorem dd_X5_flag_1 : jd cX5_flag 1 (.ifCond .eq 7) 3 4 := ⟨by decide +kernel, rfl⟩
theorem m_X5_flag : jmS yX5_flag cX5_flag 1 (some .int) 1 := ⟨(jj_m (w := Cond.code yX5_flag cX5_flag 1 (some .int)) (List.mem_of_getElem? (i := 948) (by decide +kernel)) rfl), (jj_m (w := Cond.initialized yX5_flag.cls) (List.mem_of_getElem? (i := 69) (by decide +kernel)) rfl), ⟨by decide, by decide⟩, by decide +kernel⟩
theorem s_X5_flag : (Cond.static yX5_flag : Cond) ∈ jj_tb := (jj_m (w := Cond.static yX5_flag) (List.mem_of_getElem? (i := 947) (by decide +kernel)) rfl)
def fX5_flag (i0 : Int32)  : Option (Int32) :=
  if i0 = 0 then
    some (0 : Int32)
  else
    some (1 : Int32)

set_option maxHeartbeats 4000000 in
set_option maxRecDepth 100000 in
theorem tX5_flag (l : Launch) {σ : Type} (V : JV σ) (X : σ)  (i0 : Int32) : JC l V yX5_flag cX5_flag 1 (some .int) jj_i 0 [.int i0] X ((fX5_flag i0 ).map (fun r => (r, X))) := by
  refine jj_of (by decide) (Nat.le_of_ble_eq_true rfl) (fun E hlE hE => ?_)
  unfold fX5_flag
  refine J_sub (L' := [(0, .int i0)]) [0] rfl ?_
  refine J_iload_n hE dd_X5_flag_0 0 rfl rfl ?_
  refine J_if_eq hE (tgt := 8) dd_X5_flag_1 (by decide) (fun c1 => ?_) (fun c1 => ?_)
  · refine J_iconst hE (v := (0 : Int32)) dd_X5_flag_8 (by decide) ?_
    exact J_iret hE dd_X5_flag_9 rfl rfl
  · refine J_iconst hE (v := (1 : Int32)) dd_X5_flag_4 (by decide) ?_
    refine J_goto hE (tgt := 9) dd_X5_flag_5 (by decide) ?_
    exact J_iret hE dd_X5_flag_9 rfl rfl
theorem dd_X5_isBale_0 : jd cX5_isBale 0 (.iload_n 0) 1 1 := ⟨by decide +kernel, rfl⟩
theorem dd_X5_isBale_1 : jd cX5_isBale 1 (.i2l) 1 2 := ⟨by decide +kernel, rfl⟩
theorem dd_X5_isBale_2 : jd cX5_isBale 2 (.lconst 0) 1 3 := ⟨by decide +kernel, rfl⟩
theorem cl_RX5_153 : (Cond.constantLong "MothCustomsModel" 153 (2 : Int64) : Cond) ∈ jj_tb := jj_m (List.mem_of_getElem? (i := 1018) (by decide +kernel)) rfl
theorem dd_X5_isBale_3 : jd cX5_isBale 3 (.ldc2_w 153) 3 6 := ⟨by decide +kernel, rfl⟩
theorem ml_RX5_71 : (Cond.methodLink "MothCustomsModel" 71 yX5_in : Cond) ∈ jj_tb := jj_m (List.mem_of_getElem? (i := 887) (by decide +kernel)) rfl
theorem dd_X5_isBale_6 : jd cX5_isBale 6 (.invokestatic 71) 3 9 := ⟨by decide +kernel, rfl⟩
theorem dd_X5_isBale_9 : jd cX5_isBale 9 (.ireturn) 1 10 := ⟨by decide +kernel, rfl⟩
theorem m_X5_isBale : jmS yX5_isBale cX5_isBale 1 (some .boolean) 1 := ⟨(jj_m (w := Cond.code yX5_isBale cX5_isBale 1 (some .boolean)) (List.mem_of_getElem? (i := 1017) (by decide +kernel)) rfl), (jj_m (w := Cond.initialized yX5_isBale.cls) (List.mem_of_getElem? (i := 69) (by decide +kernel)) rfl), ⟨by decide, by decide⟩, by decide +kernel⟩
theorem s_X5_isBale : (Cond.static yX5_isBale : Cond) ∈ jj_tb := (jj_m (w := Cond.static yX5_isBale) (List.mem_of_getElem? (i := 1016) (by decide +kernel)) rfl)
def fX5_isBale (i0 : Int32)  : Option (Int32) :=
  (fX5_in (i0.toInt64) (0 : Int64) (2 : Int64)).bind fun r1 =>
  zb r1 (some r1)

set_option maxHeartbeats 4000000 in
set_option maxRecDepth 100000 in
theorem tX5_isBale (l : Launch) {σ : Type} (V : JV σ) (X : σ)  (i0 : Int32) : JC l V yX5_isBale cX5_isBale 1 (some .boolean) jj_i 1 [.int i0] X ((fX5_isBale i0 ).map (fun r => (r, X))) := by
  refine jj_of (by decide) (Nat.le_of_ble_eq_true rfl) (fun E hlE hE => ?_)
  unfold fX5_isBale
  refine J_sub (L' := [(0, .int i0)]) [0] rfl ?_
  refine J_iload_n hE dd_X5_isBale_0 0 rfl rfl ?_
  refine J_i2l hE dd_X5_isBale_1 ?_
  refine J_lconst hE (v := (0 : Int64)) dd_X5_isBale_2 (by decide) ?_
  refine J_ldc2 hE (v := (2 : Int64)) dd_X5_isBale_3 cl_RX5_153 ?_
  refine J_invSri hE (As := [.long (i0.toInt64), .long (0 : Int64), .long (2 : Int64)]) (st := []) (tX5_in E.2.1 V X (i0.toInt64) (0 : Int64) (2 : Int64)) m_X5_in s_X5_in rfl ml_RX5_71 (Nat.le_of_ble_eq_true rfl) (Nat.le_of_ble_eq_true rfl) rfl (Nat.le_of_ble_eq_true rfl) dd_X5_isBale_6 (fun r1 => ?_)
  refine J_zb (fun hz => ?_)
  exact J_zret hE hz dd_X5_isBale_9 rfl rfl
theorem dd_X5_isPart_0 : jd cX5_isPart 0 (.iload_n 0) 1 1 := ⟨by decide +kernel, rfl⟩
theorem dd_X5_isPart_1 : jd cX5_isPart 1 (.i2l) 1 2 := ⟨by decide +kernel, rfl⟩
theorem dd_X5_isPart_2 : jd cX5_isPart 2 (.lconst 0) 1 3 := ⟨by decide +kernel, rfl⟩
theorem dd_X5_isPart_3 : jd cX5_isPart 3 (.lconst 1) 1 4 := ⟨by decide +kernel, rfl⟩
theorem dd_X5_isPart_4 : jd cX5_isPart 4 (.invokestatic 71) 3 7 := ⟨by decide +kernel, rfl⟩
theorem dd_X5_isPart_7 : jd cX5_isPart 7 (.ireturn) 1 8 := ⟨by decide +kernel, rfl⟩
theorem m_X5_isPart : jmS yX5_isPart cX5_isPart 1 (some .boolean) 1 := ⟨(jj_m (w := Cond.code yX5_isPart cX5_isPart 1 (some .boolean)) (List.mem_of_getElem? (i := 1091) (by decide +kernel)) rfl), (jj_m (w := Cond.initialized yX5_isPart.cls) (List.mem_of_getElem? (i := 69) (by decide +kernel)) rfl), ⟨by decide, by decide⟩, by decide +kernel⟩
theorem s_X5_isPart : (Cond.static yX5_isPart : Cond) ∈ jj_tb := (jj_m (w := Cond.static yX5_isPart) (List.mem_of_getElem? (i := 1090) (by decide +kernel)) rfl)
def fX5_isPart (i0 : Int32)  : Option (Int32) :=
  (fX5_in (i0.toInt64) (0 : Int64) (1 : Int64)).bind fun r1 =>
  zb r1 (some r1)

set_option maxHeartbeats 4000000 in
set_option maxRecDepth 100000 in
theorem tX5_isPart (l : Launch) {σ : Type} (V : JV σ) (X : σ)  (i0 : Int32) : JC l V yX5_isPart cX5_isPart 1 (some .boolean) jj_i 1 [.int i0] X ((fX5_isPart i0 ).map (fun r => (r, X))) := by
  refine jj_of (by decide) (Nat.le_of_ble_eq_true rfl) (fun E hlE hE => ?_)
  unfold fX5_isPart
  refine J_sub (L' := [(0, .int i0)]) [0] rfl ?_
  refine J_iload_n hE dd_X5_isPart_0 0 rfl rfl ?_
  refine J_i2l hE dd_X5_isPart_1 ?_
  refine J_lconst hE (v := (0 : Int64)) dd_X5_isPart_2 (by decide) ?_
  refine J_lconst hE (v := (1 : Int64)) dd_X5_isPart_3 (by decide) ?_
  refine J_invSri hE (As := [.long (i0.toInt64), .long (0 : Int64), .long (1 : Int64)]) (st := []) (tX5_in E.2.1 V X (i0.toInt64) (0 : Int64) (1 : Int64)) m_X5_in s_X5_in rfl ml_RX5_71 (Nat.le_of_ble_eq_true rfl) (Nat.le_of_ble_eq_true rfl) rfl (Nat.le_of_ble_eq_true rfl) dd_X5_isPart_4 (fun r1 => ?_)
  refine J_zb (fun hz => ?_)
  exact J_zret hE hz dd_X5_isPart_7 rfl rfl
theorem dd_X5_mostOf_0 : jd cX5_mostOf 0 (.iload_n 0) 1 1 := ⟨by decide +kernel, rfl⟩
theorem dd_X5_mostOf_8 : jd cX5_mostOf 8 (.iload_n 0) 1 9 := ⟨by decide +kernel, rfl⟩
theorem dd_X5_mostOf_9 : jd cX5_mostOf 9 (.iconst 1) 1 10 := ⟨by decide +kernel, rfl⟩
theorem dd_X5_mostOf_17 : jd cX5_mostOf 17 (.iload_n 0) 1 18 := ⟨by decide +kernel, rfl⟩
theorem dd_X5_mostOf_18 : jd cX5_mostOf 18 (.iconst 2) 1 19 := ⟨by decide +kernel, rfl⟩
theorem dd_X5_mostOf_27 : jd cX5_mostOf 27 (.iconst 2) 1 28 := ⟨by decide +kernel, rfl⟩
theorem dd_X5_mostOf_28 : jd cX5_mostOf 28 (.ireturn) 1 29 := ⟨by decide +kernel, rfl⟩
theorem dd_X5_mostOf_22 : jd cX5_mostOf 22 (.bipush 9) 2 24 := ⟨by decide +kernel, rfl⟩
theorem dd_X5_mostOf_24 : jd cX5_mostOf 24 (.goto 4) 3 27 := ⟨by decide +kernel, rfl⟩
theorem dd_X5_mostOf_19 : jd cX5_mostOf 19 (.if_icmp .ne 8) 3 22 := ⟨by decide +kernel, rfl⟩
theorem dd_X5_mostOf_13 : jd cX5_mostOf 13 (.iconst 5) 1 14 := ⟨by decide +kernel, rfl⟩
theorem dd_X5_mostOf_14 : jd cX5_mostOf 14 (.goto 14) 3 17 := ⟨by decide +kernel, rfl⟩
theorem dd_X5_mostOf_10 : jd cX5_mostOf 10 (.if_icmp .ne 7) 3 13 := ⟨by decide +kernel, rfl⟩
theorem dd_X5_mostOf_4 : jd cX5_mostOf 4 (.iconst 3) 1 5 := ⟨by decide +kernel, rfl⟩
theorem dd_X5_mostOf_5 : jd cX5_mostOf 5 (.goto 23) 3 8 := ⟨by decide +kernel, rfl⟩
theorem dd_X5_mostOf_1 : jd cX5_mostOf 1 (.ifCond .ne 7) 3 4 := ⟨by decide +kernel, rfl⟩
theorem m_X5_mostOf : jmS yX5_mostOf cX5_mostOf 1 (some .int) 1 := ⟨(jj_m (w := Cond.code yX5_mostOf cX5_mostOf 1 (some .int)) (List.mem_of_getElem? (i := 1084) (by decide +kernel)) rfl), (jj_m (w := Cond.initialized yX5_mostOf.cls) (List.mem_of_getElem? (i := 69) (by decide +kernel)) rfl), ⟨by decide, by decide⟩, by decide +kernel⟩
theorem s_X5_mostOf : (Cond.static yX5_mostOf : Cond) ∈ jj_tb := (jj_m (w := Cond.static yX5_mostOf) (List.mem_of_getElem? (i := 1083) (by decide +kernel)) rfl)
def fX5_mostOf (i0 : Int32)  : Option (Int32) :=
  if i0 = 0 then
    some (3 : Int32)
  else
    if i0 = (1 : Int32) then
      some (5 : Int32)
    else
      if i0 = (2 : Int32) then
        some (9 : Int32)
      else
        some (2 : Int32)

set_option maxHeartbeats 4000000 in
set_option maxRecDepth 100000 in
theorem tX5_mostOf (l : Launch) {σ : Type} (V : JV σ) (X : σ)  (i0 : Int32) : JC l V yX5_mostOf cX5_mostOf 1 (some .int) jj_i 0 [.int i0] X ((fX5_mostOf i0 ).map (fun r => (r, X))) := by
  refine jj_of (by decide) (Nat.le_of_ble_eq_true rfl) (fun E hlE hE => ?_)
  unfold fX5_mostOf
  refine J_sub (L' := [(0, .int i0)]) [0] rfl ?_
  refine J_iload_n hE dd_X5_mostOf_0 0 rfl rfl ?_
  refine J_if_ne hE (tgt := 8) dd_X5_mostOf_1 (by decide) (fun c3 => ?_) (fun c3 => ?_)
  · refine J_iload_n hE dd_X5_mostOf_8 0 rfl rfl ?_
    refine J_iconst hE (v := (1 : Int32)) dd_X5_mostOf_9 (by decide) ?_
    refine J_icmp_ne hE (tgt := 17) dd_X5_mostOf_10 (by decide) (fun c2 => ?_) (fun c2 => ?_)
    · refine J_iload_n hE dd_X5_mostOf_17 0 rfl rfl ?_
      refine J_iconst hE (v := (2 : Int32)) dd_X5_mostOf_18 (by decide) ?_
      refine J_icmp_ne hE (tgt := 27) dd_X5_mostOf_19 (by decide) (fun c1 => ?_) (fun c1 => ?_)
      · refine J_iconst hE (v := (2 : Int32)) dd_X5_mostOf_27 (by decide) ?_
        exact J_iret hE dd_X5_mostOf_28 rfl rfl
      · refine J_bipush hE (v := (9 : Int32)) dd_X5_mostOf_22 (by decide) ?_
        refine J_goto hE (tgt := 28) dd_X5_mostOf_24 (by decide) ?_
        exact J_iret hE dd_X5_mostOf_28 rfl rfl
    · refine J_iconst hE (v := (5 : Int32)) dd_X5_mostOf_13 (by decide) ?_
      refine J_goto hE (tgt := 28) dd_X5_mostOf_14 (by decide) ?_
      exact J_iret hE dd_X5_mostOf_28 rfl rfl
  · refine J_iconst hE (v := (3 : Int32)) dd_X5_mostOf_4 (by decide) ?_
    refine J_goto hE (tgt := 28) dd_X5_mostOf_5 (by decide) ?_
    exact J_iret hE dd_X5_mostOf_28 rfl rfl
theorem dd_X5_common_0 : jd cX5_common 0 (.lload_n 0) 1 1 := ⟨by decide +kernel, rfl⟩
theorem dd_X5_common_1 : jd cX5_common 1 (.lstore 4) 2 3 := ⟨by decide +kernel, rfl⟩
theorem dd_X5_common_3 : jd cX5_common 3 (.lload_n 2) 1 4 := ⟨by decide +kernel, rfl⟩
theorem dd_X5_common_4 : jd cX5_common 4 (.lstore 6) 2 6 := ⟨by decide +kernel, rfl⟩
theorem dd_X5_common_6 : jd cX5_common 6 (.lload 6) 2 8 := ⟨by decide +kernel, rfl⟩
theorem dd_X5_common_8 : jd cX5_common 8 (.lconst 0) 1 9 := ⟨by decide +kernel, rfl⟩
theorem dd_X5_common_9 : jd cX5_common 9 (.lcmp) 1 10 := ⟨by decide +kernel, rfl⟩
theorem dd_X5_common_13 : jd cX5_common 13 (.lload 4) 2 15 := ⟨by decide +kernel, rfl⟩
theorem dd_X5_common_15 : jd cX5_common 15 (.lload 6) 2 17 := ⟨by decide +kernel, rfl⟩
theorem dd_X5_common_17 : jd cX5_common 17 (.lrem) 1 18 := ⟨by decide +kernel, rfl⟩
theorem dd_X5_common_18 : jd cX5_common 18 (.lstore 8) 2 20 := ⟨by decide +kernel, rfl⟩
theorem dd_X5_common_20 : jd cX5_common 20 (.lload 6) 2 22 := ⟨by decide +kernel, rfl⟩
theorem dd_X5_common_22 : jd cX5_common 22 (.lstore 4) 2 24 := ⟨by decide +kernel, rfl⟩
theorem dd_X5_common_24 : jd cX5_common 24 (.lload 8) 2 26 := ⟨by decide +kernel, rfl⟩
theorem dd_X5_common_26 : jd cX5_common 26 (.lstore 6) 2 28 := ⟨by decide +kernel, rfl⟩
theorem dd_X5_common_28 : jd cX5_common 28 (.goto (-22)) 3 31 := ⟨by decide +kernel, rfl⟩
theorem dd_X5_common_10 : jd cX5_common 10 (.ifCond .eq 21) 3 13 := ⟨by decide +kernel, rfl⟩
theorem dd_X5_common_31 : jd cX5_common 31 (.lload 4) 2 33 := ⟨by decide +kernel, rfl⟩
theorem dd_X5_common_33 : jd cX5_common 33 (.lreturn) 1 34 := ⟨by decide +kernel, rfl⟩
theorem m_X5_common : jmS yX5_common cX5_common 10 (some .long) 2 := ⟨(jj_m (w := Cond.code yX5_common cX5_common 10 (some .long)) (List.mem_of_getElem? (i := 1196) (by decide +kernel)) rfl), (jj_m (w := Cond.initialized yX5_common.cls) (List.mem_of_getElem? (i := 69) (by decide +kernel)) rfl), ⟨by decide, by decide⟩, by decide +kernel⟩
theorem s_X5_common : (Cond.static yX5_common : Cond) ∈ jj_tb := (jj_m (w := Cond.static yX5_common) (List.mem_of_getElem? (i := 1195) (by decide +kernel)) rfl)
def fX5_common_L6  (k31 : Int64 → Option (Int64)) : Nat → Int64 → Int64 → Option (Int64)
  | 0, _, _ => none
  | n_ + 1, w1, w2 =>
    if (lg_cmp w2 (0 : Int64)) = 0 then
      k31 w1
    else
      if w2 = 0 then none else
      lt ((w1 - w1 / w2 * w2)) fun y3 =>
      fX5_common_L6 k31 n_ w2 y3

def fX5_common (l0 : Int64) (l2 : Int64)  : Option (Int64) :=
  fX5_common_L6 
    (fun p5 =>
      some p5)
    400 l0 l2

set_option maxHeartbeats 4000000 in
set_option maxRecDepth 100000 in
theorem tX5_common_L6 {σ : Type} (V : JV σ) (X : σ)  {E : JE (σ) Int64} (hE : JOk V E cX5_common yX5_common.cls 10 0 (some .long) jj_l) {k31 : Int64 → Option (Int64)} (hk31 : ∀ p, J V E (fun r => (r, X)) (k31 p) 31 [(4, .long p)] [] X) : ∀ (n_ : Nat) (w1 : Int64) (w2 : Int64), J V E (fun r => (r, X)) (fX5_common_L6 k31 n_ w1 w2) 6 [(4, .long w1), (6, .long w2)] [] X := by
  intro n_
  induction n_ with
  | zero =>
    intros
    exact J_none
  | succ n_ ih =>
    intros w1 w2
    rw [fX5_common_L6]
    refine J_lload hE dd_X5_common_6 1 rfl ?_
    refine J_lconst hE (v := (0 : Int64)) dd_X5_common_8 (by decide) ?_
    refine J_lcmp hE dd_X5_common_9 ?_
    refine J_if_eq hE (tgt := 31) dd_X5_common_10 (by decide) (fun c4 => ?_) (fun c4 => ?_)
    · refine J_sub [0] rfl ?_
      exact hk31 w1
    · refine J_lload hE dd_X5_common_13 0 rfl ?_
      refine J_lload hE dd_X5_common_15 1 rfl ?_
      refine J_lrem hE dd_X5_common_17 (fun _ => ?_)
      refine J_letl (fun y3 => ?_)
      refine J_lstore hE (L' := [(8, .long y3), (4, .long w1), (6, .long w2)]) dd_X5_common_18 (Nat.le_of_ble_eq_true rfl) rfl ?_
      refine J_lload hE dd_X5_common_20 2 rfl ?_
      refine J_lstore hE (L' := [(4, .long w2), (8, .long y3), (6, .long w2)]) dd_X5_common_22 (Nat.le_of_ble_eq_true rfl) rfl ?_
      refine J_lload hE dd_X5_common_24 1 rfl ?_
      refine J_lstore hE (L' := [(6, .long y3), (4, .long w2), (8, .long y3)]) dd_X5_common_26 (Nat.le_of_ble_eq_true rfl) rfl ?_
      refine J_goto hE (tgt := 6) dd_X5_common_28 (by decide) ?_
      refine J_sub [1, 0] rfl ?_
      exact ih w2 y3
set_option maxHeartbeats 4000000 in
set_option maxRecDepth 100000 in
theorem tX5_common (l : Launch) {σ : Type} (V : JV σ) (X : σ)  (l0 : Int64) (l2 : Int64) : JC l V yX5_common cX5_common 10 (some .long) jj_l 0 [.long l0, .long l2] X ((fX5_common l0 l2 ).map (fun r => (r, X))) := by
  refine jj_of (by decide) (Nat.le_of_ble_eq_true rfl) (fun E hlE hE => ?_)
  unfold fX5_common
  refine J_sub (L' := [(0, .long l0), (2, .long l2)]) [0, 1] rfl ?_
  refine J_lload_n hE dd_X5_common_0 0 rfl rfl ?_
  refine J_lstore hE (L' := [(4, .long l0), (0, .long l0), (2, .long l2)]) dd_X5_common_1 (Nat.le_of_ble_eq_true rfl) rfl ?_
  refine J_lload_n hE dd_X5_common_3 2 rfl rfl ?_
  refine J_lstore hE (L' := [(6, .long l2), (4, .long l0), (0, .long l0), (2, .long l2)]) dd_X5_common_4 (Nat.le_of_ble_eq_true rfl) rfl ?_
  refine J_sub [1, 0] rfl ?_
  refine tX5_common_L6 V X  hE (fun p5 => ?_) 400 l0 l2
  show J V E _ _ 31 [(4, .long p5)] [] X
  refine J_lload hE dd_X5_common_31 0 rfl ?_
  exact J_lret hE dd_X5_common_33 rfl rfl
theorem dd_X5_told_0 : jd cX5_told 0 (.lload_n 2) 1 1 := ⟨by decide +kernel, rfl⟩
theorem dd_X5_told_1 : jd cX5_told 1 (.lload_n 0) 1 2 := ⟨by decide +kernel, rfl⟩
theorem ml_RX5_270 : (Cond.methodLink "MothCustomsModel" 270 yX5_common : Cond) ∈ jj_tb := jj_m (List.mem_of_getElem? (i := 1194) (by decide +kernel)) rfl
theorem dd_X5_told_2 : jd cX5_told 2 (.invokestatic 270) 3 5 := ⟨by decide +kernel, rfl⟩
theorem dd_X5_told_5 : jd cX5_told 5 (.lstore 5) 2 7 := ⟨by decide +kernel, rfl⟩
theorem dd_X5_told_7 : jd cX5_told 7 (.iload 4) 2 9 := ⟨by decide +kernel, rfl⟩
theorem dd_X5_told_19 : jd cX5_told 19 (.lload_n 2) 1 20 := ⟨by decide +kernel, rfl⟩
theorem dd_X5_told_20 : jd cX5_told 20 (.lload 5) 2 22 := ⟨by decide +kernel, rfl⟩
theorem dd_X5_told_22 : jd cX5_told 22 (.ldiv) 1 23 := ⟨by decide +kernel, rfl⟩
theorem dd_X5_told_23 : jd cX5_told 23 (.lreturn) 1 24 := ⟨by decide +kernel, rfl⟩
theorem dd_X5_told_12 : jd cX5_told 12 (.lload_n 0) 1 13 := ⟨by decide +kernel, rfl⟩
theorem dd_X5_told_13 : jd cX5_told 13 (.lload 5) 2 15 := ⟨by decide +kernel, rfl⟩
theorem dd_X5_told_15 : jd cX5_told 15 (.ldiv) 1 16 := ⟨by decide +kernel, rfl⟩
theorem dd_X5_told_16 : jd cX5_told 16 (.goto 7) 3 19 := ⟨by decide +kernel, rfl⟩
theorem dd_X5_told_9 : jd cX5_told 9 (.ifCond .ne 10) 3 12 := ⟨by decide +kernel, rfl⟩
theorem m_X5_told : jmS yX5_told cX5_told 7 (some .long) 3 := ⟨(jj_m (w := Cond.code yX5_told cX5_told 7 (some .long)) (List.mem_of_getElem? (i := 1193) (by decide +kernel)) rfl), (jj_m (w := Cond.initialized yX5_told.cls) (List.mem_of_getElem? (i := 69) (by decide +kernel)) rfl), ⟨by decide, by decide⟩, by decide +kernel⟩
theorem s_X5_told : (Cond.static yX5_told : Cond) ∈ jj_tb := (jj_m (w := Cond.static yX5_told) (List.mem_of_getElem? (i := 1192) (by decide +kernel)) rfl)
def fX5_told (l0 : Int64) (l2 : Int64) (i4 : Int32)  : Option (Int64) :=
  (fX5_common l2 l0).bind fun r1 =>
  if i4 = 0 then
    if r1 = 0 then none else
    some (l0 / r1)
  else
    if r1 = 0 then none else
    some (l2 / r1)

set_option maxHeartbeats 4000000 in
set_option maxRecDepth 100000 in
theorem tX5_told (l : Launch) {σ : Type} (V : JV σ) (X : σ)  (l0 : Int64) (l2 : Int64) (i4 : Int32) : JC l V yX5_told cX5_told 7 (some .long) jj_l 1 [.long l0, .long l2, .int i4] X ((fX5_told l0 l2 i4 ).map (fun r => (r, X))) := by
  refine jj_of (by decide) (Nat.le_of_ble_eq_true rfl) (fun E hlE hE => ?_)
  unfold fX5_told
  refine J_sub (L' := [(0, .long l0), (2, .long l2), (4, .int i4)]) [0, 1, 2] rfl ?_
  refine J_lload_n hE dd_X5_told_0 1 rfl rfl ?_
  refine J_lload_n hE dd_X5_told_1 0 rfl rfl ?_
  refine J_invSrl hE (As := [.long l2, .long l0]) (st := []) (tX5_common E.2.1 V X l2 l0) m_X5_common s_X5_common rfl ml_RX5_270 (Nat.le_of_ble_eq_true rfl) (Nat.le_of_ble_eq_true rfl) rfl (Nat.le_of_ble_eq_true rfl) dd_X5_told_2 (fun r1 => ?_)
  refine J_lstore hE (L' := [(5, .long r1), (0, .long l0), (2, .long l2), (4, .int i4)]) dd_X5_told_5 (Nat.le_of_ble_eq_true rfl) rfl ?_
  refine J_iload hE dd_X5_told_7 3 rfl ?_
  refine J_if_ne hE (tgt := 19) dd_X5_told_9 (by decide) (fun c2 => ?_) (fun c2 => ?_)
  · refine J_lload_n hE dd_X5_told_19 2 rfl rfl ?_
    refine J_lload hE dd_X5_told_20 0 rfl ?_
    refine J_ldiv hE dd_X5_told_22 (fun _ => ?_)
    exact J_lret hE dd_X5_told_23 rfl rfl
  · refine J_lload_n hE dd_X5_told_12 1 rfl rfl ?_
    refine J_lload hE dd_X5_told_13 0 rfl ?_
    refine J_ldiv hE dd_X5_told_15 (fun _ => ?_)
    refine J_goto hE (tgt := 23) dd_X5_told_16 (by decide) ?_
    exact J_lret hE dd_X5_told_23 rfl rfl
theorem dd_X5_isSheet_0 : jd cX5_isSheet 0 (.iload_n 0) 1 1 := ⟨by decide +kernel, rfl⟩
theorem dd_X5_isSheet_1 : jd cX5_isSheet 1 (.i2l) 1 2 := ⟨by decide +kernel, rfl⟩
theorem dd_X5_isSheet_2 : jd cX5_isSheet 2 (.lconst 0) 1 3 := ⟨by decide +kernel, rfl⟩
theorem cl_RX5_234 : (Cond.constantLong "MothCustomsModel" 234 (3 : Int64) : Cond) ∈ jj_tb := jj_m (List.mem_of_getElem? (i := 1081) (by decide +kernel)) rfl
theorem dd_X5_isSheet_3 : jd cX5_isSheet 3 (.ldc2_w 234) 3 6 := ⟨by decide +kernel, rfl⟩
theorem dd_X5_isSheet_6 : jd cX5_isSheet 6 (.invokestatic 71) 3 9 := ⟨by decide +kernel, rfl⟩
theorem dd_X5_isSheet_28 : jd cX5_isSheet 28 (.iconst 0) 1 29 := ⟨by decide +kernel, rfl⟩
theorem dd_X5_isSheet_29 : jd cX5_isSheet 29 (.ireturn) 1 30 := ⟨by decide +kernel, rfl⟩
theorem dd_X5_isSheet_12 : jd cX5_isSheet 12 (.iload_n 1) 1 13 := ⟨by decide +kernel, rfl⟩
theorem dd_X5_isSheet_13 : jd cX5_isSheet 13 (.i2l) 1 14 := ⟨by decide +kernel, rfl⟩
theorem dd_X5_isSheet_14 : jd cX5_isSheet 14 (.lconst 0) 1 15 := ⟨by decide +kernel, rfl⟩
theorem dd_X5_isSheet_15 : jd cX5_isSheet 15 (.ldc2_w 153) 3 18 := ⟨by decide +kernel, rfl⟩
theorem dd_X5_isSheet_18 : jd cX5_isSheet 18 (.invokestatic 71) 3 21 := ⟨by decide +kernel, rfl⟩
theorem dd_X5_isSheet_24 : jd cX5_isSheet 24 (.iconst 1) 1 25 := ⟨by decide +kernel, rfl⟩
theorem dd_X5_isSheet_25 : jd cX5_isSheet 25 (.goto 4) 3 28 := ⟨by decide +kernel, rfl⟩
theorem dd_X5_isSheet_21 : jd cX5_isSheet 21 (.ifCond .eq 7) 3 24 := ⟨by decide +kernel, rfl⟩
theorem dd_X5_isSheet_9 : jd cX5_isSheet 9 (.ifCond .eq 19) 3 12 := ⟨by decide +kernel, rfl⟩
theorem m_X5_isSheet : jmS yX5_isSheet cX5_isSheet 2 (some .boolean) 2 := ⟨(jj_m (w := Cond.code yX5_isSheet cX5_isSheet 2 (some .boolean)) (List.mem_of_getElem? (i := 1256) (by decide +kernel)) rfl), (jj_m (w := Cond.initialized yX5_isSheet.cls) (List.mem_of_getElem? (i := 69) (by decide +kernel)) rfl), ⟨by decide, by decide⟩, by decide +kernel⟩
theorem s_X5_isSheet : (Cond.static yX5_isSheet : Cond) ∈ jj_tb := (jj_m (w := Cond.static yX5_isSheet) (List.mem_of_getElem? (i := 1255) (by decide +kernel)) rfl)
def fX5_isSheet (i0 : Int32) (i1 : Int32)  : Option (Int32) :=
  (fX5_in (i0.toInt64) (0 : Int64) (3 : Int64)).bind fun r1 =>
  if r1 = 0 then
    some (0 : Int32)
  else
    (fX5_in (i1.toInt64) (0 : Int64) (2 : Int64)).bind fun r2 =>
    if r2 = 0 then
      some (0 : Int32)
    else
      some (1 : Int32)

set_option maxHeartbeats 4000000 in
set_option maxRecDepth 100000 in
theorem tX5_isSheet (l : Launch) {σ : Type} (V : JV σ) (X : σ)  (i0 : Int32) (i1 : Int32) : JC l V yX5_isSheet cX5_isSheet 2 (some .boolean) jj_i 1 [.int i0, .int i1] X ((fX5_isSheet i0 i1 ).map (fun r => (r, X))) := by
  refine jj_of (by decide) (Nat.le_of_ble_eq_true rfl) (fun E hlE hE => ?_)
  unfold fX5_isSheet
  refine J_sub (L' := [(0, .int i0), (1, .int i1)]) [0, 1] rfl ?_
  refine J_iload_n hE dd_X5_isSheet_0 0 rfl rfl ?_
  refine J_i2l hE dd_X5_isSheet_1 ?_
  refine J_lconst hE (v := (0 : Int64)) dd_X5_isSheet_2 (by decide) ?_
  refine J_ldc2 hE (v := (3 : Int64)) dd_X5_isSheet_3 cl_RX5_234 ?_
  refine J_invSri hE (As := [.long (i0.toInt64), .long (0 : Int64), .long (3 : Int64)]) (st := []) (tX5_in E.2.1 V X (i0.toInt64) (0 : Int64) (3 : Int64)) m_X5_in s_X5_in rfl ml_RX5_71 (Nat.le_of_ble_eq_true rfl) (Nat.le_of_ble_eq_true rfl) rfl (Nat.le_of_ble_eq_true rfl) dd_X5_isSheet_6 (fun r1 => ?_)
  refine J_if_eq hE (tgt := 28) dd_X5_isSheet_9 (by decide) (fun c4 => ?_) (fun c4 => ?_)
  · refine J_iconst hE (v := (0 : Int32)) dd_X5_isSheet_28 (by decide) ?_
    exact J_zret hE (Or.inl rfl) dd_X5_isSheet_29 rfl rfl
  · refine J_iload_n hE dd_X5_isSheet_12 1 rfl rfl ?_
    refine J_i2l hE dd_X5_isSheet_13 ?_
    refine J_lconst hE (v := (0 : Int64)) dd_X5_isSheet_14 (by decide) ?_
    refine J_ldc2 hE (v := (2 : Int64)) dd_X5_isSheet_15 cl_RX5_153 ?_
    refine J_invSri hE (As := [.long (i1.toInt64), .long (0 : Int64), .long (2 : Int64)]) (st := []) (tX5_in E.2.1 V X (i1.toInt64) (0 : Int64) (2 : Int64)) m_X5_in s_X5_in rfl ml_RX5_71 (Nat.le_of_ble_eq_true rfl) (Nat.le_of_ble_eq_true rfl) rfl (Nat.le_of_ble_eq_true rfl) dd_X5_isSheet_18 (fun r2 => ?_)
    refine J_if_eq hE (tgt := 28) dd_X5_isSheet_21 (by decide) (fun c3 => ?_) (fun c3 => ?_)
    · refine J_iconst hE (v := (0 : Int32)) dd_X5_isSheet_28 (by decide) ?_
      exact J_zret hE (Or.inl rfl) dd_X5_isSheet_29 rfl rfl
    · refine J_iconst hE (v := (1 : Int32)) dd_X5_isSheet_24 (by decide) ?_
      refine J_goto hE (tgt := 29) dd_X5_isSheet_25 (by decide) ?_
      exact J_zret hE (Or.inr rfl) dd_X5_isSheet_29 rfl rfl
theorem dd_X3_mostOfNumber_0 : jd cX3_mostOfNumber 0 (.iload_n 0) 1 1 := ⟨by decide +kernel, rfl⟩
theorem dd_X3_mostOfNumber_28 : jd cX3_mostOfNumber 28 (.iconst 4) 1 29 := ⟨by decide +kernel, rfl⟩
theorem dd_X3_mostOfNumber_29 : jd cX3_mostOfNumber 29 (.ireturn) 1 30 := ⟨by decide +kernel, rfl⟩
theorem dd_X3_mostOfNumber_30 : jd cX3_mostOfNumber 30 (.iconst 3) 1 31 := ⟨by decide +kernel, rfl⟩
theorem dd_X3_mostOfNumber_31 : jd cX3_mostOfNumber 31 (.ireturn) 1 32 := ⟨by decide +kernel, rfl⟩
theorem dd_X3_mostOfNumber_32 : jd cX3_mostOfNumber 32 (.bipush 9) 2 34 := ⟨by decide +kernel, rfl⟩
theorem dd_X3_mostOfNumber_34 : jd cX3_mostOfNumber 34 (.ireturn) 1 35 := ⟨by decide +kernel, rfl⟩
theorem dd_X3_mostOfNumber_35 : jd cX3_mostOfNumber 35 (.iload_n 1) 1 36 := ⟨by decide +kernel, rfl⟩
theorem dd_X3_mostOfNumber_36 : jd cX3_mostOfNumber 36 (.iconst 1) 1 37 := ⟨by decide +kernel, rfl⟩
theorem dd_X3_mostOfNumber_37 : jd cX3_mostOfNumber 37 (.iadd) 1 38 := ⟨by decide +kernel, rfl⟩
theorem dd_X3_mostOfNumber_38 : jd cX3_mostOfNumber 38 (.invokestatic 93) 3 41 := ⟨by decide +kernel, rfl⟩
theorem dd_X3_mostOfNumber_41 : jd cX3_mostOfNumber 41 (.ireturn) 1 42 := ⟨by decide +kernel, rfl⟩
theorem dd_X3_mostOfNumber_1 : jd cX3_mostOfNumber 1 (.tableswitch 34 5 7 #[27, 29, 31]) 27 28 := ⟨by decide +kernel, rfl⟩
theorem m_X3_mostOfNumber : jmS yX3_mostOfNumber cX3_mostOfNumber 2 (some .int) 2 := ⟨(jj_m (w := Cond.code yX3_mostOfNumber cX3_mostOfNumber 2 (some .int)) (List.mem_of_getElem? (i := 412) (by decide +kernel)) rfl), (jj_m (w := Cond.initialized yX3_mostOfNumber.cls) (List.mem_of_getElem? (i := 65) (by decide +kernel)) rfl), ⟨by decide, by decide⟩, by decide +kernel⟩
theorem s_X3_mostOfNumber : (Cond.static yX3_mostOfNumber : Cond) ∈ jj_tb := (jj_m (w := Cond.static yX3_mostOfNumber) (List.mem_of_getElem? (i := 411) (by decide +kernel)) rfl)
def fX3_mostOfNumber (i0 : Int32) (i1 : Int32)  : Option (Int32) :=
  if i0 = 5 then
    some (4 : Int32)
  else
    if i0 = 6 then
      some (3 : Int32)
    else
      if i0 = 7 then
        some (9 : Int32)
      else
        (fX4_mostOfTrait (i1 + (1 : Int32))).bind fun r4 =>
        some r4

set_option maxHeartbeats 4000000 in
set_option maxRecDepth 100000 in
theorem tX3_mostOfNumber (l : Launch) {σ : Type} (V : JV σ) (X : σ)  (i0 : Int32) (i1 : Int32) : JC l V yX3_mostOfNumber cX3_mostOfNumber 2 (some .int) jj_i 1 [.int i0, .int i1] X ((fX3_mostOfNumber i0 i1 ).map (fun r => (r, X))) := by
  refine jj_of (by decide) (Nat.le_of_ble_eq_true rfl) (fun E hlE hE => ?_)
  unfold fX3_mostOfNumber
  refine J_sub (L' := [(0, .int i0), (1, .int i1)]) [0, 1] rfl ?_
  refine J_iload_n hE dd_X3_mostOfNumber_0 0 rfl rfl ?_
  refine J_ite (fun c1 => ?_) (fun c1 => ?_)
  · refine J_tsAt hE c1 (off := 27) (tgt := 28) dd_X3_mostOfNumber_1 (by decide) (by decide) (by decide) (by decide) ?_
    refine J_iconst hE (v := (4 : Int32)) dd_X3_mostOfNumber_28 (by decide) ?_
    exact J_iret hE dd_X3_mostOfNumber_29 rfl rfl
  · refine J_ite (fun c2 => ?_) (fun c2 => ?_)
    · refine J_tsAt hE c2 (off := 29) (tgt := 30) dd_X3_mostOfNumber_1 (by decide) (by decide) (by decide) (by decide) ?_
      refine J_iconst hE (v := (3 : Int32)) dd_X3_mostOfNumber_30 (by decide) ?_
      exact J_iret hE dd_X3_mostOfNumber_31 rfl rfl
    · refine J_ite (fun c3 => ?_) (fun c3 => ?_)
      · refine J_tsAt hE c3 (off := 31) (tgt := 32) dd_X3_mostOfNumber_1 (by decide) (by decide) (by decide) (by decide) ?_
        refine J_bipush hE (v := (9 : Int32)) dd_X3_mostOfNumber_32 (by decide) ?_
        exact J_iret hE dd_X3_mostOfNumber_34 rfl rfl
      · refine J_tsOut hE (tgt := 35) dd_X3_mostOfNumber_1 (by have e0 : ¬ (i0).toInt = 5 := fun q => c1 (Int32.toInt_inj.mp (q.trans (by decide))); have e1 : ¬ (i0).toInt = 6 := fun q => c2 (Int32.toInt_inj.mp (q.trans (by decide))); have e2 : ¬ (i0).toInt = 7 := fun q => c3 (Int32.toInt_inj.mp (q.trans (by decide))); omega) (by decide) ?_
        refine J_iload_n hE dd_X3_mostOfNumber_35 1 rfl rfl ?_
        refine J_iconst hE (v := (1 : Int32)) dd_X3_mostOfNumber_36 (by decide) ?_
        refine J_iadd hE dd_X3_mostOfNumber_37 ?_
        refine J_invNri hE (host := "MothCustoms") (As := [.int (i1 + (1 : Int32))]) (st := []) (tX4_mostOfTrait E.2.1 V X (i1 + (1 : Int32))) m_X4_mostOfTrait s_X4_mostOfTrait rfl (by decide +kernel) (Nat.le_of_ble_eq_true rfl) (Nat.le_of_ble_eq_true rfl) rfl (Nat.le_of_ble_eq_true rfl) dd_X3_mostOfNumber_38 (fun r4 => ?_)
        exact J_iret hE dd_X3_mostOfNumber_41 rfl rfl
theorem dd_X3_isLetter_0 : jd cX3_isLetter 0 (.iload_n 0) 1 1 := ⟨by decide +kernel, rfl⟩
theorem dd_X3_isLetter_1 : jd cX3_isLetter 1 (.bipush 97) 2 3 := ⟨by decide +kernel, rfl⟩
theorem dd_X3_isLetter_16 : jd cX3_isLetter 16 (.iconst 0) 1 17 := ⟨by decide +kernel, rfl⟩
theorem dd_X3_isLetter_17 : jd cX3_isLetter 17 (.ireturn) 1 18 := ⟨by decide +kernel, rfl⟩
theorem dd_X3_isLetter_6 : jd cX3_isLetter 6 (.iload_n 0) 1 7 := ⟨by decide +kernel, rfl⟩
theorem dd_X3_isLetter_7 : jd cX3_isLetter 7 (.bipush 122) 2 9 := ⟨by decide +kernel, rfl⟩
theorem dd_X3_isLetter_12 : jd cX3_isLetter 12 (.iconst 1) 1 13 := ⟨by decide +kernel, rfl⟩
theorem dd_X3_isLetter_13 : jd cX3_isLetter 13 (.goto 4) 3 16 := ⟨by decide +kernel, rfl⟩
theorem dd_X3_isLetter_9 : jd cX3_isLetter 9 (.if_icmp .gt 7) 3 12 := ⟨by decide +kernel, rfl⟩
theorem dd_X3_isLetter_3 : jd cX3_isLetter 3 (.if_icmp .lt 13) 3 6 := ⟨by decide +kernel, rfl⟩
theorem m_X3_isLetter : jmS yX3_isLetter cX3_isLetter 1 (some .boolean) 1 := ⟨(jj_m (w := Cond.code yX3_isLetter cX3_isLetter 1 (some .boolean)) (List.mem_of_getElem? (i := 322) (by decide +kernel)) rfl), (jj_m (w := Cond.initialized yX3_isLetter.cls) (List.mem_of_getElem? (i := 65) (by decide +kernel)) rfl), ⟨by decide, by decide⟩, by decide +kernel⟩
theorem s_X3_isLetter : (Cond.static yX3_isLetter : Cond) ∈ jj_tb := (jj_m (w := Cond.static yX3_isLetter) (List.mem_of_getElem? (i := 321) (by decide +kernel)) rfl)
def fX3_isLetter (i0 : Int32)  : Option (Int32) :=
  if i0 < (97 : Int32) then
    some (0 : Int32)
  else
    if (122 : Int32) < i0 then
      some (0 : Int32)
    else
      some (1 : Int32)

set_option maxHeartbeats 4000000 in
set_option maxRecDepth 100000 in
theorem tX3_isLetter (l : Launch) {σ : Type} (V : JV σ) (X : σ)  (i0 : Int32) : JC l V yX3_isLetter cX3_isLetter 1 (some .boolean) jj_i 0 [.int i0] X ((fX3_isLetter i0 ).map (fun r => (r, X))) := by
  refine jj_of (by decide) (Nat.le_of_ble_eq_true rfl) (fun E hlE hE => ?_)
  unfold fX3_isLetter
  refine J_sub (L' := [(0, .int i0)]) [0] rfl ?_
  refine J_iload_n hE dd_X3_isLetter_0 0 rfl rfl ?_
  refine J_bipush hE (v := (97 : Int32)) dd_X3_isLetter_1 (by decide) ?_
  refine J_icmp_lt hE (tgt := 16) dd_X3_isLetter_3 (by decide) (fun c2 => ?_) (fun c2 => ?_)
  · refine J_iconst hE (v := (0 : Int32)) dd_X3_isLetter_16 (by decide) ?_
    exact J_zret hE (Or.inl rfl) dd_X3_isLetter_17 rfl rfl
  · refine J_iload_n hE dd_X3_isLetter_6 0 rfl rfl ?_
    refine J_bipush hE (v := (122 : Int32)) dd_X3_isLetter_7 (by decide) ?_
    refine J_icmp_gt hE (tgt := 16) dd_X3_isLetter_9 (by decide) (fun c1 => ?_) (fun c1 => ?_)
    · refine J_iconst hE (v := (0 : Int32)) dd_X3_isLetter_16 (by decide) ?_
      exact J_zret hE (Or.inl rfl) dd_X3_isLetter_17 rfl rfl
    · refine J_iconst hE (v := (1 : Int32)) dd_X3_isLetter_12 (by decide) ?_
      refine J_goto hE (tgt := 17) dd_X3_isLetter_13 (by decide) ?_
      exact J_zret hE (Or.inr rfl) dd_X3_isLetter_17 rfl rfl
theorem dd_X3_isFigure_0 : jd cX3_isFigure 0 (.iload_n 0) 1 1 := ⟨by decide +kernel, rfl⟩
theorem dd_X3_isFigure_1 : jd cX3_isFigure 1 (.bipush 48) 2 3 := ⟨by decide +kernel, rfl⟩
theorem dd_X3_isFigure_16 : jd cX3_isFigure 16 (.iconst 0) 1 17 := ⟨by decide +kernel, rfl⟩
theorem dd_X3_isFigure_17 : jd cX3_isFigure 17 (.ireturn) 1 18 := ⟨by decide +kernel, rfl⟩
theorem dd_X3_isFigure_6 : jd cX3_isFigure 6 (.iload_n 0) 1 7 := ⟨by decide +kernel, rfl⟩
theorem dd_X3_isFigure_7 : jd cX3_isFigure 7 (.bipush 57) 2 9 := ⟨by decide +kernel, rfl⟩
theorem dd_X3_isFigure_12 : jd cX3_isFigure 12 (.iconst 1) 1 13 := ⟨by decide +kernel, rfl⟩
theorem dd_X3_isFigure_13 : jd cX3_isFigure 13 (.goto 4) 3 16 := ⟨by decide +kernel, rfl⟩
theorem dd_X3_isFigure_9 : jd cX3_isFigure 9 (.if_icmp .gt 7) 3 12 := ⟨by decide +kernel, rfl⟩
theorem dd_X3_isFigure_3 : jd cX3_isFigure 3 (.if_icmp .lt 13) 3 6 := ⟨by decide +kernel, rfl⟩
theorem m_X3_isFigure : jmS yX3_isFigure cX3_isFigure 1 (some .boolean) 1 := ⟨(jj_m (w := Cond.code yX3_isFigure cX3_isFigure 1 (some .boolean)) (List.mem_of_getElem? (i := 329) (by decide +kernel)) rfl), (jj_m (w := Cond.initialized yX3_isFigure.cls) (List.mem_of_getElem? (i := 65) (by decide +kernel)) rfl), ⟨by decide, by decide⟩, by decide +kernel⟩
theorem s_X3_isFigure : (Cond.static yX3_isFigure : Cond) ∈ jj_tb := (jj_m (w := Cond.static yX3_isFigure) (List.mem_of_getElem? (i := 328) (by decide +kernel)) rfl)
def fX3_isFigure (i0 : Int32)  : Option (Int32) :=
  if i0 < (48 : Int32) then
    some (0 : Int32)
  else
    if (57 : Int32) < i0 then
      some (0 : Int32)
    else
      some (1 : Int32)

set_option maxHeartbeats 4000000 in
set_option maxRecDepth 100000 in
theorem tX3_isFigure (l : Launch) {σ : Type} (V : JV σ) (X : σ)  (i0 : Int32) : JC l V yX3_isFigure cX3_isFigure 1 (some .boolean) jj_i 0 [.int i0] X ((fX3_isFigure i0 ).map (fun r => (r, X))) := by
  refine jj_of (by decide) (Nat.le_of_ble_eq_true rfl) (fun E hlE hE => ?_)
  unfold fX3_isFigure
  refine J_sub (L' := [(0, .int i0)]) [0] rfl ?_
  refine J_iload_n hE dd_X3_isFigure_0 0 rfl rfl ?_
  refine J_bipush hE (v := (48 : Int32)) dd_X3_isFigure_1 (by decide) ?_
  refine J_icmp_lt hE (tgt := 16) dd_X3_isFigure_3 (by decide) (fun c2 => ?_) (fun c2 => ?_)
  · refine J_iconst hE (v := (0 : Int32)) dd_X3_isFigure_16 (by decide) ?_
    exact J_zret hE (Or.inl rfl) dd_X3_isFigure_17 rfl rfl
  · refine J_iload_n hE dd_X3_isFigure_6 0 rfl rfl ?_
    refine J_bipush hE (v := (57 : Int32)) dd_X3_isFigure_7 (by decide) ?_
    refine J_icmp_gt hE (tgt := 16) dd_X3_isFigure_9 (by decide) (fun c1 => ?_) (fun c1 => ?_)
    · refine J_iconst hE (v := (0 : Int32)) dd_X3_isFigure_16 (by decide) ?_
      exact J_zret hE (Or.inl rfl) dd_X3_isFigure_17 rfl rfl
    · refine J_iconst hE (v := (1 : Int32)) dd_X3_isFigure_12 (by decide) ?_
      refine J_goto hE (tgt := 17) dd_X3_isFigure_13 (by decide) ?_
      exact J_zret hE (Or.inr rfl) dd_X3_isFigure_17 rfl rfl
theorem dd_J6_bitCount_0f7a4_0 : jd cJ6_bitCount_0f7a4 0 (.iload_n 0) 1 1 := ⟨by decide +kernel, rfl⟩
theorem dd_J6_bitCount_0f7a4_1 : jd cJ6_bitCount_0f7a4 1 (.iload_n 0) 1 2 := ⟨by decide +kernel, rfl⟩
theorem dd_J6_bitCount_0f7a4_2 : jd cJ6_bitCount_0f7a4 2 (.iconst 1) 1 3 := ⟨by decide +kernel, rfl⟩
theorem dd_J6_bitCount_0f7a4_3 : jd cJ6_bitCount_0f7a4 3 (.iushr) 1 4 := ⟨by decide +kernel, rfl⟩
theorem ci_RJ6_265 : (Cond.constant "java/lang/Integer" 265 (1431655765 : Int32) : Cond) ∈ jj_tb := jj_m (List.mem_of_getElem? (i := 788) (by decide +kernel)) rfl
theorem dd_J6_bitCount_0f7a4_4 : jd cJ6_bitCount_0f7a4 4 (.ldc_w 265) 3 7 := ⟨by decide +kernel, rfl⟩
theorem dd_J6_bitCount_0f7a4_7 : jd cJ6_bitCount_0f7a4 7 (.iand) 1 8 := ⟨by decide +kernel, rfl⟩
theorem dd_J6_bitCount_0f7a4_8 : jd cJ6_bitCount_0f7a4 8 (.isub) 1 9 := ⟨by decide +kernel, rfl⟩
theorem dd_J6_bitCount_0f7a4_9 : jd cJ6_bitCount_0f7a4 9 (.istore_n 0) 1 10 := ⟨by decide +kernel, rfl⟩
theorem dd_J6_bitCount_0f7a4_10 : jd cJ6_bitCount_0f7a4 10 (.iload_n 0) 1 11 := ⟨by decide +kernel, rfl⟩
theorem ci_RJ6_266 : (Cond.constant "java/lang/Integer" 266 (858993459 : Int32) : Cond) ∈ jj_tb := jj_m (List.mem_of_getElem? (i := 789) (by decide +kernel)) rfl
theorem dd_J6_bitCount_0f7a4_11 : jd cJ6_bitCount_0f7a4 11 (.ldc_w 266) 3 14 := ⟨by decide +kernel, rfl⟩
theorem dd_J6_bitCount_0f7a4_14 : jd cJ6_bitCount_0f7a4 14 (.iand) 1 15 := ⟨by decide +kernel, rfl⟩
theorem dd_J6_bitCount_0f7a4_15 : jd cJ6_bitCount_0f7a4 15 (.iload_n 0) 1 16 := ⟨by decide +kernel, rfl⟩
theorem dd_J6_bitCount_0f7a4_16 : jd cJ6_bitCount_0f7a4 16 (.iconst 2) 1 17 := ⟨by decide +kernel, rfl⟩
theorem dd_J6_bitCount_0f7a4_17 : jd cJ6_bitCount_0f7a4 17 (.iushr) 1 18 := ⟨by decide +kernel, rfl⟩
theorem dd_J6_bitCount_0f7a4_18 : jd cJ6_bitCount_0f7a4 18 (.ldc_w 266) 3 21 := ⟨by decide +kernel, rfl⟩
theorem dd_J6_bitCount_0f7a4_21 : jd cJ6_bitCount_0f7a4 21 (.iand) 1 22 := ⟨by decide +kernel, rfl⟩
theorem dd_J6_bitCount_0f7a4_22 : jd cJ6_bitCount_0f7a4 22 (.iadd) 1 23 := ⟨by decide +kernel, rfl⟩
theorem dd_J6_bitCount_0f7a4_23 : jd cJ6_bitCount_0f7a4 23 (.istore_n 0) 1 24 := ⟨by decide +kernel, rfl⟩
theorem dd_J6_bitCount_0f7a4_24 : jd cJ6_bitCount_0f7a4 24 (.iload_n 0) 1 25 := ⟨by decide +kernel, rfl⟩
theorem dd_J6_bitCount_0f7a4_25 : jd cJ6_bitCount_0f7a4 25 (.iload_n 0) 1 26 := ⟨by decide +kernel, rfl⟩
theorem dd_J6_bitCount_0f7a4_26 : jd cJ6_bitCount_0f7a4 26 (.iconst 4) 1 27 := ⟨by decide +kernel, rfl⟩
theorem dd_J6_bitCount_0f7a4_27 : jd cJ6_bitCount_0f7a4 27 (.iushr) 1 28 := ⟨by decide +kernel, rfl⟩
theorem dd_J6_bitCount_0f7a4_28 : jd cJ6_bitCount_0f7a4 28 (.iadd) 1 29 := ⟨by decide +kernel, rfl⟩
theorem ci_RJ6_267 : (Cond.constant "java/lang/Integer" 267 (252645135 : Int32) : Cond) ∈ jj_tb := jj_m (List.mem_of_getElem? (i := 790) (by decide +kernel)) rfl
theorem dd_J6_bitCount_0f7a4_29 : jd cJ6_bitCount_0f7a4 29 (.ldc_w 267) 3 32 := ⟨by decide +kernel, rfl⟩
theorem dd_J6_bitCount_0f7a4_32 : jd cJ6_bitCount_0f7a4 32 (.iand) 1 33 := ⟨by decide +kernel, rfl⟩
theorem dd_J6_bitCount_0f7a4_33 : jd cJ6_bitCount_0f7a4 33 (.istore_n 0) 1 34 := ⟨by decide +kernel, rfl⟩
theorem dd_J6_bitCount_0f7a4_34 : jd cJ6_bitCount_0f7a4 34 (.iload_n 0) 1 35 := ⟨by decide +kernel, rfl⟩
theorem dd_J6_bitCount_0f7a4_35 : jd cJ6_bitCount_0f7a4 35 (.iload_n 0) 1 36 := ⟨by decide +kernel, rfl⟩
theorem dd_J6_bitCount_0f7a4_36 : jd cJ6_bitCount_0f7a4 36 (.bipush 8) 2 38 := ⟨by decide +kernel, rfl⟩
theorem dd_J6_bitCount_0f7a4_38 : jd cJ6_bitCount_0f7a4 38 (.iushr) 1 39 := ⟨by decide +kernel, rfl⟩
theorem dd_J6_bitCount_0f7a4_39 : jd cJ6_bitCount_0f7a4 39 (.iadd) 1 40 := ⟨by decide +kernel, rfl⟩
theorem dd_J6_bitCount_0f7a4_40 : jd cJ6_bitCount_0f7a4 40 (.istore_n 0) 1 41 := ⟨by decide +kernel, rfl⟩
theorem dd_J6_bitCount_0f7a4_41 : jd cJ6_bitCount_0f7a4 41 (.iload_n 0) 1 42 := ⟨by decide +kernel, rfl⟩
theorem dd_J6_bitCount_0f7a4_42 : jd cJ6_bitCount_0f7a4 42 (.iload_n 0) 1 43 := ⟨by decide +kernel, rfl⟩
theorem dd_J6_bitCount_0f7a4_43 : jd cJ6_bitCount_0f7a4 43 (.bipush 16) 2 45 := ⟨by decide +kernel, rfl⟩
theorem dd_J6_bitCount_0f7a4_45 : jd cJ6_bitCount_0f7a4 45 (.iushr) 1 46 := ⟨by decide +kernel, rfl⟩
theorem dd_J6_bitCount_0f7a4_46 : jd cJ6_bitCount_0f7a4 46 (.iadd) 1 47 := ⟨by decide +kernel, rfl⟩
theorem dd_J6_bitCount_0f7a4_47 : jd cJ6_bitCount_0f7a4 47 (.istore_n 0) 1 48 := ⟨by decide +kernel, rfl⟩
theorem dd_J6_bitCount_0f7a4_48 : jd cJ6_bitCount_0f7a4 48 (.iload_n 0) 1 49 := ⟨by decide +kernel, rfl⟩
theorem dd_J6_bitCount_0f7a4_49 : jd cJ6_bitCount_0f7a4 49 (.bipush 63) 2 51 := ⟨by decide +kernel, rfl⟩
theorem dd_J6_bitCount_0f7a4_51 : jd cJ6_bitCount_0f7a4 51 (.iand) 1 52 := ⟨by decide +kernel, rfl⟩
theorem dd_J6_bitCount_0f7a4_52 : jd cJ6_bitCount_0f7a4 52 (.ireturn) 1 53 := ⟨by decide +kernel, rfl⟩
theorem m_J6_bitCount_0f7a4 : jmS yJ6_bitCount_0f7a4 cJ6_bitCount_0f7a4 1 (some .int) 1 := ⟨(jj_m (w := Cond.code yJ6_bitCount_0f7a4 cJ6_bitCount_0f7a4 1 (some .int)) (List.mem_of_getElem? (i := 787) (by decide +kernel)) rfl), (jj_m (w := Cond.initialized yJ6_bitCount_0f7a4.cls) (List.mem_of_getElem? (i := 76) (by decide +kernel)) rfl), ⟨by decide, by decide⟩, by decide +kernel⟩
theorem s_J6_bitCount_0f7a4 : (Cond.static yJ6_bitCount_0f7a4 : Cond) ∈ jj_tb := (jj_m (w := Cond.static yJ6_bitCount_0f7a4) (List.mem_of_getElem? (i := 786) (by decide +kernel)) rfl)
def fJ6_bitCount_0f7a4 (i0 : Int32)  : Option (Int32) :=
  lt ((i0 - (((i0.toUInt32 >>> ((1 : Int32).toUInt32 &&& Int32.toUInt32 31)).toInt32) &&& (1431655765 : Int32)))) fun x1 =>
  lt (((x1 &&& (858993459 : Int32)) + (((x1.toUInt32 >>> ((2 : Int32).toUInt32 &&& Int32.toUInt32 31)).toInt32) &&& (858993459 : Int32)))) fun x2 =>
  lt (((x2 + ((x2.toUInt32 >>> ((4 : Int32).toUInt32 &&& Int32.toUInt32 31)).toInt32)) &&& (252645135 : Int32))) fun x3 =>
  lt ((x3 + ((x3.toUInt32 >>> ((8 : Int32).toUInt32 &&& Int32.toUInt32 31)).toInt32))) fun x4 =>
  lt ((x4 + ((x4.toUInt32 >>> ((16 : Int32).toUInt32 &&& Int32.toUInt32 31)).toInt32))) fun x5 =>
  some (x5 &&& (63 : Int32))

set_option maxHeartbeats 4000000 in
set_option maxRecDepth 100000 in
theorem tJ6_bitCount_0f7a4 (l : Launch) {σ : Type} (V : JV σ) (X : σ)  (i0 : Int32) : JC l V yJ6_bitCount_0f7a4 cJ6_bitCount_0f7a4 1 (some .int) jj_i 0 [.int i0] X ((fJ6_bitCount_0f7a4 i0 ).map (fun r => (r, X))) := by
  refine jj_of (by decide) (Nat.le_of_ble_eq_true rfl) (fun E hlE hE => ?_)
  unfold fJ6_bitCount_0f7a4
  refine J_sub (L' := [(0, .int i0)]) [0] rfl ?_
  refine J_iload_n hE dd_J6_bitCount_0f7a4_0 0 rfl rfl ?_
  refine J_iload_n hE dd_J6_bitCount_0f7a4_1 0 rfl rfl ?_
  refine J_iconst hE (v := (1 : Int32)) dd_J6_bitCount_0f7a4_2 (by decide) ?_
  refine J_iushr hE dd_J6_bitCount_0f7a4_3 ?_
  refine J_ldcw hE (v := (1431655765 : Int32)) dd_J6_bitCount_0f7a4_4 ci_RJ6_265 ?_
  refine J_iand hE dd_J6_bitCount_0f7a4_7 ?_
  refine J_isub hE dd_J6_bitCount_0f7a4_8 ?_
  refine J_leti (fun x1 => ?_)
  refine J_istore_n hE (L' := [(0, .int x1)]) dd_J6_bitCount_0f7a4_9 (Nat.le_of_ble_eq_true rfl) rfl rfl ?_
  refine J_iload_n hE dd_J6_bitCount_0f7a4_10 0 rfl rfl ?_
  refine J_ldcw hE (v := (858993459 : Int32)) dd_J6_bitCount_0f7a4_11 ci_RJ6_266 ?_
  refine J_iand hE dd_J6_bitCount_0f7a4_14 ?_
  refine J_iload_n hE dd_J6_bitCount_0f7a4_15 0 rfl rfl ?_
  refine J_iconst hE (v := (2 : Int32)) dd_J6_bitCount_0f7a4_16 (by decide) ?_
  refine J_iushr hE dd_J6_bitCount_0f7a4_17 ?_
  refine J_ldcw hE (v := (858993459 : Int32)) dd_J6_bitCount_0f7a4_18 ci_RJ6_266 ?_
  refine J_iand hE dd_J6_bitCount_0f7a4_21 ?_
  refine J_iadd hE dd_J6_bitCount_0f7a4_22 ?_
  refine J_leti (fun x2 => ?_)
  refine J_istore_n hE (L' := [(0, .int x2)]) dd_J6_bitCount_0f7a4_23 (Nat.le_of_ble_eq_true rfl) rfl rfl ?_
  refine J_iload_n hE dd_J6_bitCount_0f7a4_24 0 rfl rfl ?_
  refine J_iload_n hE dd_J6_bitCount_0f7a4_25 0 rfl rfl ?_
  refine J_iconst hE (v := (4 : Int32)) dd_J6_bitCount_0f7a4_26 (by decide) ?_
  refine J_iushr hE dd_J6_bitCount_0f7a4_27 ?_
  refine J_iadd hE dd_J6_bitCount_0f7a4_28 ?_
  refine J_ldcw hE (v := (252645135 : Int32)) dd_J6_bitCount_0f7a4_29 ci_RJ6_267 ?_
  refine J_iand hE dd_J6_bitCount_0f7a4_32 ?_
  refine J_leti (fun x3 => ?_)
  refine J_istore_n hE (L' := [(0, .int x3)]) dd_J6_bitCount_0f7a4_33 (Nat.le_of_ble_eq_true rfl) rfl rfl ?_
  refine J_iload_n hE dd_J6_bitCount_0f7a4_34 0 rfl rfl ?_
  refine J_iload_n hE dd_J6_bitCount_0f7a4_35 0 rfl rfl ?_
  refine J_bipush hE (v := (8 : Int32)) dd_J6_bitCount_0f7a4_36 (by decide) ?_
  refine J_iushr hE dd_J6_bitCount_0f7a4_38 ?_
  refine J_iadd hE dd_J6_bitCount_0f7a4_39 ?_
  refine J_leti (fun x4 => ?_)
  refine J_istore_n hE (L' := [(0, .int x4)]) dd_J6_bitCount_0f7a4_40 (Nat.le_of_ble_eq_true rfl) rfl rfl ?_
  refine J_iload_n hE dd_J6_bitCount_0f7a4_41 0 rfl rfl ?_
  refine J_iload_n hE dd_J6_bitCount_0f7a4_42 0 rfl rfl ?_
  refine J_bipush hE (v := (16 : Int32)) dd_J6_bitCount_0f7a4_43 (by decide) ?_
  refine J_iushr hE dd_J6_bitCount_0f7a4_45 ?_
  refine J_iadd hE dd_J6_bitCount_0f7a4_46 ?_
  refine J_leti (fun x5 => ?_)
  refine J_istore_n hE (L' := [(0, .int x5)]) dd_J6_bitCount_0f7a4_47 (Nat.le_of_ble_eq_true rfl) rfl rfl ?_
  refine J_iload_n hE dd_J6_bitCount_0f7a4_48 0 rfl rfl ?_
  refine J_bipush hE (v := (63 : Int32)) dd_J6_bitCount_0f7a4_49 (by decide) ?_
  refine J_iand hE dd_J6_bitCount_0f7a4_51 ?_
  exact J_iret hE dd_J6_bitCount_0f7a4_52 rfl rfl
end
section
theorem dd_X1_makeEmpty_0 : jd cX1_makeEmpty 0 (.aload_n 0) 1 1 := ⟨by decide +kernel, rfl⟩
theorem dd_X1_makeEmpty_1 : jd cX1_makeEmpty 1 (.iconst 0) 1 2 := ⟨by decide +kernel, rfl⟩
theorem fl_RX1_49 : (Cond.fieldLink "MothCustoms$Shed" 49 "MothCustoms$Shed" "bolts" "I" : Cond) ∈ jj_tb := jj_m (List.mem_of_getElem? (i := 136) (by decide +kernel)) rfl
theorem dd_X1_makeEmpty_2 : jd cX1_makeEmpty 2 (.putfield 49) 3 5 := ⟨by decide +kernel, rfl⟩
theorem dd_X1_makeEmpty_5 : jd cX1_makeEmpty 5 (.aload_n 0) 1 6 := ⟨by decide +kernel, rfl⟩
theorem dd_X1_makeEmpty_6 : jd cX1_makeEmpty 6 (.iconst 0) 1 7 := ⟨by decide +kernel, rfl⟩
theorem fl_RX1_52 : (Cond.fieldLink "MothCustoms$Shed" 52 "MothCustoms$Shed" "camphor" "I" : Cond) ∈ jj_tb := jj_m (List.mem_of_getElem? (i := 146) (by decide +kernel)) rfl
theorem dd_X1_makeEmpty_7 : jd cX1_makeEmpty 7 (.putfield 52) 3 10 := ⟨by decide +kernel, rfl⟩
theorem dd_X1_makeEmpty_10 : jd cX1_makeEmpty 10 (.aload_n 0) 1 11 := ⟨by decide +kernel, rfl⟩
theorem dd_X1_makeEmpty_11 : jd cX1_makeEmpty 11 (.iconst 0) 1 12 := ⟨by decide +kernel, rfl⟩
theorem fl_RX1_55 : (Cond.fieldLink "MothCustoms$Shed" 55 "MothCustoms$Shed" "moths" "I" : Cond) ∈ jj_tb := jj_m (List.mem_of_getElem? (i := 155) (by decide +kernel)) rfl
theorem dd_X1_makeEmpty_12 : jd cX1_makeEmpty 12 (.putfield 55) 3 15 := ⟨by decide +kernel, rfl⟩
theorem dd_X1_makeEmpty_15 : jd cX1_makeEmpty 15 (.aload_n 0) 1 16 := ⟨by decide +kernel, rfl⟩
theorem dd_X1_makeEmpty_16 : jd cX1_makeEmpty 16 (.iconst 0) 1 17 := ⟨by decide +kernel, rfl⟩
theorem fl_RX1_58 : (Cond.fieldLink "MothCustoms$Shed" 58 "MothCustoms$Shed" "moon" "I" : Cond) ∈ jj_tb := jj_m (List.mem_of_getElem? (i := 164) (by decide +kernel)) rfl
theorem dd_X1_makeEmpty_17 : jd cX1_makeEmpty 17 (.putfield 58) 3 20 := ⟨by decide +kernel, rfl⟩
theorem dd_X1_makeEmpty_20 : jd cX1_makeEmpty 20 (.aload_n 0) 1 21 := ⟨by decide +kernel, rfl⟩
theorem dd_X1_makeEmpty_21 : jd cX1_makeEmpty 21 (.iconst 1) 1 22 := ⟨by decide +kernel, rfl⟩
theorem fl_RX1_39 : (Cond.fieldLink "MothCustoms$Shed" 39 "MothCustoms$Shed" "rate" "I" : Cond) ∈ jj_tb := jj_m (List.mem_of_getElem? (i := 167) (by decide +kernel)) rfl
theorem dd_X1_makeEmpty_22 : jd cX1_makeEmpty 22 (.putfield 39) 3 25 := ⟨by decide +kernel, rfl⟩
theorem dd_X1_makeEmpty_25 : jd cX1_makeEmpty 25 (.aload_n 0) 1 26 := ⟨by decide +kernel, rfl⟩
theorem dd_X1_makeEmpty_26 : jd cX1_makeEmpty 26 (.iconst 0) 1 27 := ⟨by decide +kernel, rfl⟩
theorem fl_RX1_61 : (Cond.fieldLink "MothCustoms$Shed" 61 "MothCustoms$Shed" "night" "I" : Cond) ∈ jj_tb := jj_m (List.mem_of_getElem? (i := 170) (by decide +kernel)) rfl
theorem dd_X1_makeEmpty_27 : jd cX1_makeEmpty 27 (.putfield 61) 3 30 := ⟨by decide +kernel, rfl⟩
theorem dd_X1_makeEmpty_30 : jd cX1_makeEmpty 30 (.aload_n 0) 1 31 := ⟨by decide +kernel, rfl⟩
theorem dd_X1_makeEmpty_31 : jd cX1_makeEmpty 31 (.iconst 0) 1 32 := ⟨by decide +kernel, rfl⟩
theorem fl_RX1_64 : (Cond.fieldLink "MothCustoms$Shed" 64 "MothCustoms$Shed" "seen" "I" : Cond) ∈ jj_tb := jj_m (List.mem_of_getElem? (i := 172) (by decide +kernel)) rfl
theorem dd_X1_makeEmpty_32 : jd cX1_makeEmpty 32 (.putfield 64) 3 35 := ⟨by decide +kernel, rfl⟩
theorem dd_X1_makeEmpty_35 : jd cX1_makeEmpty 35 (.iconst 0) 1 36 := ⟨by decide +kernel, rfl⟩
theorem dd_X1_makeEmpty_36 : jd cX1_makeEmpty 36 (.istore_n 1) 1 37 := ⟨by decide +kernel, rfl⟩
theorem dd_X1_makeEmpty_37 : jd cX1_makeEmpty 37 (.iload_n 1) 1 38 := ⟨by decide +kernel, rfl⟩
theorem dd_X1_makeEmpty_38 : jd cX1_makeEmpty 38 (.iconst 3) 1 39 := ⟨by decide +kernel, rfl⟩
theorem dd_X1_makeEmpty_42 : jd cX1_makeEmpty 42 (.aload_n 0) 1 43 := ⟨by decide +kernel, rfl⟩
theorem fl_RX1_24 : (Cond.fieldLink "MothCustoms$Shed" 24 "MothCustoms$Shed" "height" "[I" : Cond) ∈ jj_tb := jj_m (List.mem_of_getElem? (i := 152) (by decide +kernel)) rfl
theorem dd_X1_makeEmpty_43 : jd cX1_makeEmpty 43 (.getfield 24) 3 46 := ⟨by decide +kernel, rfl⟩
theorem dd_X1_makeEmpty_46 : jd cX1_makeEmpty 46 (.iload_n 1) 1 47 := ⟨by decide +kernel, rfl⟩
theorem dd_X1_makeEmpty_47 : jd cX1_makeEmpty 47 (.iconst 0) 1 48 := ⟨by decide +kernel, rfl⟩
theorem dd_X1_makeEmpty_48 : jd cX1_makeEmpty 48 (.iastore) 1 49 := ⟨by decide +kernel, rfl⟩
theorem dd_X1_makeEmpty_49 : jd cX1_makeEmpty 49 (.iinc 1 1) 3 52 := ⟨by decide +kernel, rfl⟩
theorem dd_X1_makeEmpty_52 : jd cX1_makeEmpty 52 (.goto (-15)) 3 55 := ⟨by decide +kernel, rfl⟩
theorem dd_X1_makeEmpty_39 : jd cX1_makeEmpty 39 (.if_icmp .ge 16) 3 42 := ⟨by decide +kernel, rfl⟩
theorem dd_X1_makeEmpty_55 : jd cX1_makeEmpty 55 (.return_) 1 56 := ⟨by decide +kernel, rfl⟩
theorem m_X1_makeEmpty : jmV yX1_makeEmpty cX1_makeEmpty 2 none 0 := ⟨⟨(jj_m (w := Cond.code yX1_makeEmpty cX1_makeEmpty 2 none) (List.mem_of_getElem? (i := 315) (by decide +kernel)) rfl), (jj_m (w := Cond.initialized yX1_makeEmpty.cls) (List.mem_of_getElem? (i := 66) (by decide +kernel)) rfl), ⟨by decide, by decide⟩, by decide +kernel⟩, (jj_m (w := Cond.instanceMethod yX1_makeEmpty) (List.mem_of_getElem? (i := 313) (by decide +kernel)) rfl), (jj_m (w := Cond.selects yX1_makeEmpty.cls yX1_makeEmpty yX1_makeEmpty) (List.mem_of_getElem? (i := 314) (by decide +kernel)) rfl)⟩
def fX1_makeEmpty_L37  (k55 : M2 → Option (M2)) : Nat → Int32 → M2 → Option (M2)
  | 0, _, _ => none
  | n_ + 1, v8, S9 =>
    if (3 : Int32) ≤ v8 then
      k55 S9
    else
      bnd v8 3 <|
      lt (va_up S9 6 (upd (S9 6) v8.toNatClampNeg (0 : Int32))) fun S10 =>
      lt (v8 + (1 : Int32)) fun x11 =>
      fX1_makeEmpty_L37 k55 n_ x11 S10

def fX1_makeEmpty  (S : M2) : Option (M2) :=
  lt (va_up S 0 (fun _ => (0 : Int32))) fun S1 =>
  lt (va_up S1 4 (fun _ => (0 : Int32))) fun S2 =>
  lt (va_up S2 7 (fun _ => (0 : Int32))) fun S3 =>
  lt (va_up S3 12 (fun _ => (0 : Int32))) fun S4 =>
  lt (va_up S4 13 (fun _ => (1 : Int32))) fun S5 =>
  lt (va_up S5 14 (fun _ => (0 : Int32))) fun S6 =>
  lt (va_up S6 15 (fun _ => (0 : Int32))) fun S7 =>
  fX1_makeEmpty_L37 
    (fun p13 =>
      some p13)
    400 (0 : Int32) S7

set_option maxHeartbeats 4000000 in
set_option maxRecDepth 100000 in
theorem tX1_makeEmpty_L37 {V : JV M2} {b : Nat} {a : Nat → Nat} (hv : vX1 V b a)  {E : JE (M2) Unit} (hE : JOk V E cX1_makeEmpty yX1_makeEmpty.cls 2 0 none jj_v) {k55 : M2 → Option (M2)} (hk55 : ∀ p, J V E (fun q => ((), q)) (k55 p) 55 [] [] p) : ∀ (n_ : Nat) (v8 : Int32) (S9 : M2), J V E (fun q => ((), q)) (fX1_makeEmpty_L37 k55 n_ v8 S9) 37 [(0, .ref b), (1, .int v8)] [] S9 := by
  intro n_
  induction n_ with
  | zero =>
    intros
    exact J_none
  | succ n_ ih =>
    intros v8 S9
    rw [fX1_makeEmpty_L37]
    refine J_iload_n hE dd_X1_makeEmpty_37 1 rfl rfl ?_
    refine J_iconst hE (v := (3 : Int32)) dd_X1_makeEmpty_38 (by decide) ?_
    refine J_icmp_ge hE (tgt := 55) dd_X1_makeEmpty_39 (by decide) (fun c12 => ?_) (fun c12 => ?_)
    · refine J_sub [] rfl ?_
      exact hk55 S9
    · refine J_aload_n hE dd_X1_makeEmpty_42 0 rfl rfl ?_
      refine J_get hE (hv.ob _) jc_X1 6 (by decide) fl_RX1_24 (v := .ref (a 6)) rfl dd_X1_makeEmpty_43 ?_
      refine J_iload_n hE dd_X1_makeEmpty_46 1 rfl rfl ?_
      refine J_iconst hE (v := (0 : Int32)) dd_X1_makeEmpty_47 (by decide) ?_
      refine J_ast hE hv 6 (N := 3) (by decide) dd_X1_makeEmpty_48 ?_
      refine J_letS (fun S10 => ?_)
      refine J_iincL hE (v := (v8 + (1 : Int32))) (Lf := fun x11 => [(1, .int x11), (0, .ref b)]) dd_X1_makeEmpty_49 (j := 1) rfl (congrArg (v8 + ·) (by decide)) (Nat.le_of_ble_eq_true rfl) (fun _ => rfl) (fun x11 => ?_)
      refine J_goto hE (tgt := 37) dd_X1_makeEmpty_52 (by decide) ?_
      refine J_sub [1, 0] rfl ?_
      exact ih x11 S10
set_option maxHeartbeats 4000000 in
set_option maxRecDepth 100000 in
theorem tX1_makeEmpty (l : Launch) {V : JV M2} {b : Nat} {a : Nat → Nat} (hv : vX1 V b a) (S : M2)  : JC l V yX1_makeEmpty cX1_makeEmpty 2 none jj_v 0 [.ref b] S ((fX1_makeEmpty  S).map (fun q => ((), q))) := by
  refine jj_of (by decide) (Nat.le_of_ble_eq_true rfl) (fun E hlE hE => ?_)
  unfold fX1_makeEmpty
  refine J_sub (L' := [(0, .ref b)]) [0] rfl ?_
  refine J_aload_n hE dd_X1_makeEmpty_0 0 rfl rfl ?_
  refine J_iconst hE (v := (0 : Int32)) dd_X1_makeEmpty_1 (by decide) ?_
  refine J_put hE hv jc_X1 0 (by decide) (by decide) fl_RX1_49 rfl rfl rfl (Nat.le_of_ble_eq_true rfl) dd_X1_makeEmpty_2 ?_
  refine J_letS (fun S1 => ?_)
  refine J_aload_n hE dd_X1_makeEmpty_5 0 rfl rfl ?_
  refine J_iconst hE (v := (0 : Int32)) dd_X1_makeEmpty_6 (by decide) ?_
  refine J_put hE hv jc_X1 4 (by decide) (by decide) fl_RX1_52 rfl rfl rfl (Nat.le_of_ble_eq_true rfl) dd_X1_makeEmpty_7 ?_
  refine J_letS (fun S2 => ?_)
  refine J_aload_n hE dd_X1_makeEmpty_10 0 rfl rfl ?_
  refine J_iconst hE (v := (0 : Int32)) dd_X1_makeEmpty_11 (by decide) ?_
  refine J_put hE hv jc_X1 7 (by decide) (by decide) fl_RX1_55 rfl rfl rfl (Nat.le_of_ble_eq_true rfl) dd_X1_makeEmpty_12 ?_
  refine J_letS (fun S3 => ?_)
  refine J_aload_n hE dd_X1_makeEmpty_15 0 rfl rfl ?_
  refine J_iconst hE (v := (0 : Int32)) dd_X1_makeEmpty_16 (by decide) ?_
  refine J_put hE hv jc_X1 12 (by decide) (by decide) fl_RX1_58 rfl rfl rfl (Nat.le_of_ble_eq_true rfl) dd_X1_makeEmpty_17 ?_
  refine J_letS (fun S4 => ?_)
  refine J_aload_n hE dd_X1_makeEmpty_20 0 rfl rfl ?_
  refine J_iconst hE (v := (1 : Int32)) dd_X1_makeEmpty_21 (by decide) ?_
  refine J_put hE hv jc_X1 13 (by decide) (by decide) fl_RX1_39 rfl rfl rfl (Nat.le_of_ble_eq_true rfl) dd_X1_makeEmpty_22 ?_
  refine J_letS (fun S5 => ?_)
  refine J_aload_n hE dd_X1_makeEmpty_25 0 rfl rfl ?_
  refine J_iconst hE (v := (0 : Int32)) dd_X1_makeEmpty_26 (by decide) ?_
  refine J_put hE hv jc_X1 14 (by decide) (by decide) fl_RX1_61 rfl rfl rfl (Nat.le_of_ble_eq_true rfl) dd_X1_makeEmpty_27 ?_
  refine J_letS (fun S6 => ?_)
  refine J_aload_n hE dd_X1_makeEmpty_30 0 rfl rfl ?_
  refine J_iconst hE (v := (0 : Int32)) dd_X1_makeEmpty_31 (by decide) ?_
  refine J_put hE hv jc_X1 15 (by decide) (by decide) fl_RX1_64 rfl rfl rfl (Nat.le_of_ble_eq_true rfl) dd_X1_makeEmpty_32 ?_
  refine J_letS (fun S7 => ?_)
  refine J_iconst hE (v := (0 : Int32)) dd_X1_makeEmpty_35 (by decide) ?_
  refine J_istore_n hE (L' := [(1, .int (0 : Int32)), (0, .ref b)]) dd_X1_makeEmpty_36 (Nat.le_of_ble_eq_true rfl) rfl rfl ?_
  refine J_sub [1, 0] rfl ?_
  refine tX1_makeEmpty_L37 hv  hE (fun p13 => ?_) 400 (0 : Int32) S7
  show J V E _ _ 55 [] [] p13
  exact J_vret hE dd_X1_makeEmpty_55 rfl rfl
theorem dd_X1_copyHolesFrom_0 : jd cX1_copyHolesFrom 0 (.aload_n 1) 1 1 := ⟨by decide +kernel, rfl⟩
theorem fl_RX1_18 : (Cond.fieldLink "MothCustoms$Shed" 18 "MothCustoms$Shed" "holes" "[I" : Cond) ∈ jj_tb := jj_m (List.mem_of_getElem? (i := 144) (by decide +kernel)) rfl
theorem dd_X1_copyHolesFrom_1 : jd cX1_copyHolesFrom 1 (.getfield 18) 3 4 := ⟨by decide +kernel, rfl⟩
theorem dd_X1_copyHolesFrom_4 : jd cX1_copyHolesFrom 4 (.iconst 0) 1 5 := ⟨by decide +kernel, rfl⟩
theorem dd_X1_copyHolesFrom_5 : jd cX1_copyHolesFrom 5 (.aload_n 0) 1 6 := ⟨by decide +kernel, rfl⟩
theorem dd_X1_copyHolesFrom_6 : jd cX1_copyHolesFrom 6 (.getfield 18) 3 9 := ⟨by decide +kernel, rfl⟩
theorem dd_X1_copyHolesFrom_9 : jd cX1_copyHolesFrom 9 (.iconst 0) 1 10 := ⟨by decide +kernel, rfl⟩
theorem dd_X1_copyHolesFrom_10 : jd cX1_copyHolesFrom 10 (.iconst 5) 1 11 := ⟨by decide +kernel, rfl⟩
theorem ml_RX1_67 : (Cond.methodLink "MothCustoms$Shed" 67 arraycopyName : Cond) ∈ jj_tb := jj_m (List.mem_of_getElem? (i := 441) (by decide +kernel)) rfl
theorem dd_X1_copyHolesFrom_11 : jd cX1_copyHolesFrom 11 (.invokestatic 67) 3 14 := ⟨by decide +kernel, rfl⟩
theorem dd_X1_copyHolesFrom_14 : jd cX1_copyHolesFrom 14 (.return_) 1 15 := ⟨by decide +kernel, rfl⟩
theorem m_X1_copyHolesFrom : jmV yX1_copyHolesFrom cX1_copyHolesFrom 2 none 1 := ⟨⟨(jj_m (w := Cond.code yX1_copyHolesFrom cX1_copyHolesFrom 2 none) (List.mem_of_getElem? (i := 447) (by decide +kernel)) rfl), (jj_m (w := Cond.initialized yX1_copyHolesFrom.cls) (List.mem_of_getElem? (i := 66) (by decide +kernel)) rfl), ⟨by decide, by decide⟩, by decide +kernel⟩, (jj_m (w := Cond.instanceMethod yX1_copyHolesFrom) (List.mem_of_getElem? (i := 445) (by decide +kernel)) rfl), (jj_m (w := Cond.selects yX1_copyHolesFrom.cls yX1_copyHolesFrom yX1_copyHolesFrom) (List.mem_of_getElem? (i := 446) (by decide +kernel)) rfl)⟩
def fX1_copyHolesFrom  (S : M2) (N : M2) : Option (M2) :=
  lt (va_up S 3 (va_cpy (N 3) (S 3) 0 0 5)) fun S1 =>
  some S1

set_option maxHeartbeats 4000000 in
set_option maxRecDepth 100000 in
theorem tX1_copyHolesFrom (l : Launch) {V : JV M2} {b : Nat} {a : Nat → Nat} (hv : vX1 V b a) {b2 : Nat} {a2 : Nat → Nat} {N : M2} (hr : rX1 V b2 a2 N) (S : M2)  : JC l V yX1_copyHolesFrom cX1_copyHolesFrom 2 none jj_v 1 [.ref b, .ref b2] S ((fX1_copyHolesFrom  S N).map (fun q => ((), q))) := by
  refine jj_of (by decide) (Nat.le_of_ble_eq_true rfl) (fun E hlE hE => ?_)
  unfold fX1_copyHolesFrom
  refine J_sub (L' := [(0, .ref b), (1, .ref b2)]) [0, 1] rfl ?_
  refine J_aload_n hE dd_X1_copyHolesFrom_0 1 rfl rfl ?_
  refine J_get hE (hr.ob _) jc_X1 3 (by decide) fl_RX1_18 (v := .ref (a2 3)) rfl dd_X1_copyHolesFrom_1 ?_
  refine J_iconst hE (v := (0 : Int32)) dd_X1_copyHolesFrom_4 (by decide) ?_
  refine J_aload_n hE dd_X1_copyHolesFrom_5 0 rfl rfl ?_
  refine J_get hE (hv.ob _) jc_X1 3 (by decide) fl_RX1_18 (v := .ref (a 3)) rfl dd_X1_copyHolesFrom_6 ?_
  refine J_iconst hE (v := (0 : Int32)) dd_X1_copyHolesFrom_9 (by decide) ?_
  refine J_iconst hE (v := (5 : Int32)) dd_X1_copyHolesFrom_10 (by decide) ?_
  refine J_copy hE hv 3 (N := 5) (by decide) (hr.arr 3 (n := 5) (ty := .int) (by decide) _) (by decide) (by decide) ml_RX1_67 (Nat.le_of_ble_eq_true rfl) (Nat.le_of_ble_eq_true rfl) dd_X1_copyHolesFrom_11 ?_
  refine J_letS (fun S1 => ?_)
  exact J_vret hE dd_X1_copyHolesFrom_14 rfl rfl
theorem dd_X1_copyLyingFrom_0 : jd cX1_copyLyingFrom 0 (.aload_n 1) 1 1 := ⟨by decide +kernel, rfl⟩
theorem fl_RX1_21 : (Cond.fieldLink "MothCustoms$Shed" 21 "MothCustoms$Shed" "lying" "[I" : Cond) ∈ jj_tb := jj_m (List.mem_of_getElem? (i := 149) (by decide +kernel)) rfl
theorem dd_X1_copyLyingFrom_1 : jd cX1_copyLyingFrom 1 (.getfield 21) 3 4 := ⟨by decide +kernel, rfl⟩
theorem dd_X1_copyLyingFrom_4 : jd cX1_copyLyingFrom 4 (.iconst 0) 1 5 := ⟨by decide +kernel, rfl⟩
theorem dd_X1_copyLyingFrom_5 : jd cX1_copyLyingFrom 5 (.aload_n 0) 1 6 := ⟨by decide +kernel, rfl⟩
theorem dd_X1_copyLyingFrom_6 : jd cX1_copyLyingFrom 6 (.getfield 21) 3 9 := ⟨by decide +kernel, rfl⟩
theorem dd_X1_copyLyingFrom_9 : jd cX1_copyLyingFrom 9 (.iconst 0) 1 10 := ⟨by decide +kernel, rfl⟩
theorem dd_X1_copyLyingFrom_10 : jd cX1_copyLyingFrom 10 (.bipush 15) 2 12 := ⟨by decide +kernel, rfl⟩
theorem dd_X1_copyLyingFrom_12 : jd cX1_copyLyingFrom 12 (.invokestatic 67) 3 15 := ⟨by decide +kernel, rfl⟩
theorem dd_X1_copyLyingFrom_15 : jd cX1_copyLyingFrom 15 (.aload_n 1) 1 16 := ⟨by decide +kernel, rfl⟩
theorem dd_X1_copyLyingFrom_16 : jd cX1_copyLyingFrom 16 (.getfield 24) 3 19 := ⟨by decide +kernel, rfl⟩
theorem dd_X1_copyLyingFrom_19 : jd cX1_copyLyingFrom 19 (.iconst 0) 1 20 := ⟨by decide +kernel, rfl⟩
theorem dd_X1_copyLyingFrom_20 : jd cX1_copyLyingFrom 20 (.aload_n 0) 1 21 := ⟨by decide +kernel, rfl⟩
theorem dd_X1_copyLyingFrom_21 : jd cX1_copyLyingFrom 21 (.getfield 24) 3 24 := ⟨by decide +kernel, rfl⟩
theorem dd_X1_copyLyingFrom_24 : jd cX1_copyLyingFrom 24 (.iconst 0) 1 25 := ⟨by decide +kernel, rfl⟩
theorem dd_X1_copyLyingFrom_25 : jd cX1_copyLyingFrom 25 (.iconst 3) 1 26 := ⟨by decide +kernel, rfl⟩
theorem dd_X1_copyLyingFrom_26 : jd cX1_copyLyingFrom 26 (.invokestatic 67) 3 29 := ⟨by decide +kernel, rfl⟩
theorem dd_X1_copyLyingFrom_29 : jd cX1_copyLyingFrom 29 (.return_) 1 30 := ⟨by decide +kernel, rfl⟩
theorem m_X1_copyLyingFrom : jmV yX1_copyLyingFrom cX1_copyLyingFrom 2 none 1 := ⟨⟨(jj_m (w := Cond.code yX1_copyLyingFrom cX1_copyLyingFrom 2 none) (List.mem_of_getElem? (i := 451) (by decide +kernel)) rfl), (jj_m (w := Cond.initialized yX1_copyLyingFrom.cls) (List.mem_of_getElem? (i := 66) (by decide +kernel)) rfl), ⟨by decide, by decide⟩, by decide +kernel⟩, (jj_m (w := Cond.instanceMethod yX1_copyLyingFrom) (List.mem_of_getElem? (i := 449) (by decide +kernel)) rfl), (jj_m (w := Cond.selects yX1_copyLyingFrom.cls yX1_copyLyingFrom yX1_copyLyingFrom) (List.mem_of_getElem? (i := 450) (by decide +kernel)) rfl)⟩
def fX1_copyLyingFrom  (S : M2) (N : M2) : Option (M2) :=
  lt (va_up S 5 (va_cpy (N 5) (S 5) 0 0 15)) fun S1 =>
  lt (va_up S1 6 (va_cpy (N 6) (S1 6) 0 0 3)) fun S2 =>
  some S2

set_option maxHeartbeats 4000000 in
set_option maxRecDepth 100000 in
theorem tX1_copyLyingFrom (l : Launch) {V : JV M2} {b : Nat} {a : Nat → Nat} (hv : vX1 V b a) {b2 : Nat} {a2 : Nat → Nat} {N : M2} (hr : rX1 V b2 a2 N) (S : M2)  : JC l V yX1_copyLyingFrom cX1_copyLyingFrom 2 none jj_v 1 [.ref b, .ref b2] S ((fX1_copyLyingFrom  S N).map (fun q => ((), q))) := by
  refine jj_of (by decide) (Nat.le_of_ble_eq_true rfl) (fun E hlE hE => ?_)
  unfold fX1_copyLyingFrom
  refine J_sub (L' := [(0, .ref b), (1, .ref b2)]) [0, 1] rfl ?_
  refine J_aload_n hE dd_X1_copyLyingFrom_0 1 rfl rfl ?_
  refine J_get hE (hr.ob _) jc_X1 5 (by decide) fl_RX1_21 (v := .ref (a2 5)) rfl dd_X1_copyLyingFrom_1 ?_
  refine J_iconst hE (v := (0 : Int32)) dd_X1_copyLyingFrom_4 (by decide) ?_
  refine J_aload_n hE dd_X1_copyLyingFrom_5 0 rfl rfl ?_
  refine J_get hE (hv.ob _) jc_X1 5 (by decide) fl_RX1_21 (v := .ref (a 5)) rfl dd_X1_copyLyingFrom_6 ?_
  refine J_iconst hE (v := (0 : Int32)) dd_X1_copyLyingFrom_9 (by decide) ?_
  refine J_bipush hE (v := (15 : Int32)) dd_X1_copyLyingFrom_10 (by decide) ?_
  refine J_copy hE hv 5 (N := 15) (by decide) (hr.arr 5 (n := 15) (ty := .int) (by decide) _) (by decide) (by decide) ml_RX1_67 (Nat.le_of_ble_eq_true rfl) (Nat.le_of_ble_eq_true rfl) dd_X1_copyLyingFrom_12 ?_
  refine J_letS (fun S1 => ?_)
  refine J_aload_n hE dd_X1_copyLyingFrom_15 1 rfl rfl ?_
  refine J_get hE (hr.ob _) jc_X1 6 (by decide) fl_RX1_24 (v := .ref (a2 6)) rfl dd_X1_copyLyingFrom_16 ?_
  refine J_iconst hE (v := (0 : Int32)) dd_X1_copyLyingFrom_19 (by decide) ?_
  refine J_aload_n hE dd_X1_copyLyingFrom_20 0 rfl rfl ?_
  refine J_get hE (hv.ob _) jc_X1 6 (by decide) fl_RX1_24 (v := .ref (a 6)) rfl dd_X1_copyLyingFrom_21 ?_
  refine J_iconst hE (v := (0 : Int32)) dd_X1_copyLyingFrom_24 (by decide) ?_
  refine J_iconst hE (v := (3 : Int32)) dd_X1_copyLyingFrom_25 (by decide) ?_
  refine J_copy hE hv 6 (N := 3) (by decide) (hr.arr 6 (n := 3) (ty := .int) (by decide) _) (by decide) (by decide) ml_RX1_67 (Nat.le_of_ble_eq_true rfl) (Nat.le_of_ble_eq_true rfl) dd_X1_copyLyingFrom_26 ?_
  refine J_letS (fun S2 => ?_)
  exact J_vret hE dd_X1_copyLyingFrom_29 rfl rfl
theorem dd_X1_copyFrom_0 : jd cX1_copyFrom 0 (.aload_n 0) 1 1 := ⟨by decide +kernel, rfl⟩
theorem dd_X1_copyFrom_1 : jd cX1_copyFrom 1 (.aload_n 1) 1 2 := ⟨by decide +kernel, rfl⟩
theorem dd_X1_copyFrom_2 : jd cX1_copyFrom 2 (.getfield 49) 3 5 := ⟨by decide +kernel, rfl⟩
theorem dd_X1_copyFrom_5 : jd cX1_copyFrom 5 (.putfield 49) 3 8 := ⟨by decide +kernel, rfl⟩
theorem dd_X1_copyFrom_8 : jd cX1_copyFrom 8 (.aload_n 1) 1 9 := ⟨by decide +kernel, rfl⟩
theorem fl_RX1_9 : (Cond.fieldLink "MothCustoms$Shed" 9 "MothCustoms$Shed" "dye" "[I" : Cond) ∈ jj_tb := jj_m (List.mem_of_getElem? (i := 140) (by decide +kernel)) rfl
theorem dd_X1_copyFrom_9 : jd cX1_copyFrom 9 (.getfield 9) 3 12 := ⟨by decide +kernel, rfl⟩
theorem dd_X1_copyFrom_12 : jd cX1_copyFrom 12 (.iconst 0) 1 13 := ⟨by decide +kernel, rfl⟩
theorem dd_X1_copyFrom_13 : jd cX1_copyFrom 13 (.aload_n 0) 1 14 := ⟨by decide +kernel, rfl⟩
theorem dd_X1_copyFrom_14 : jd cX1_copyFrom 14 (.getfield 9) 3 17 := ⟨by decide +kernel, rfl⟩
theorem dd_X1_copyFrom_17 : jd cX1_copyFrom 17 (.iconst 0) 1 18 := ⟨by decide +kernel, rfl⟩
theorem dd_X1_copyFrom_18 : jd cX1_copyFrom 18 (.iconst 5) 1 19 := ⟨by decide +kernel, rfl⟩
theorem dd_X1_copyFrom_19 : jd cX1_copyFrom 19 (.invokestatic 67) 3 22 := ⟨by decide +kernel, rfl⟩
theorem dd_X1_copyFrom_22 : jd cX1_copyFrom 22 (.aload_n 1) 1 23 := ⟨by decide +kernel, rfl⟩
theorem fl_RX1_15 : (Cond.fieldLink "MothCustoms$Shed" 15 "MothCustoms$Shed" "wool" "[I" : Cond) ∈ jj_tb := jj_m (List.mem_of_getElem? (i := 142) (by decide +kernel)) rfl
theorem dd_X1_copyFrom_23 : jd cX1_copyFrom 23 (.getfield 15) 3 26 := ⟨by decide +kernel, rfl⟩
theorem dd_X1_copyFrom_26 : jd cX1_copyFrom 26 (.iconst 0) 1 27 := ⟨by decide +kernel, rfl⟩
theorem dd_X1_copyFrom_27 : jd cX1_copyFrom 27 (.aload_n 0) 1 28 := ⟨by decide +kernel, rfl⟩
theorem dd_X1_copyFrom_28 : jd cX1_copyFrom 28 (.getfield 15) 3 31 := ⟨by decide +kernel, rfl⟩
theorem dd_X1_copyFrom_31 : jd cX1_copyFrom 31 (.iconst 0) 1 32 := ⟨by decide +kernel, rfl⟩
theorem dd_X1_copyFrom_32 : jd cX1_copyFrom 32 (.iconst 5) 1 33 := ⟨by decide +kernel, rfl⟩
theorem dd_X1_copyFrom_33 : jd cX1_copyFrom 33 (.invokestatic 67) 3 36 := ⟨by decide +kernel, rfl⟩
theorem dd_X1_copyFrom_36 : jd cX1_copyFrom 36 (.aload_n 0) 1 37 := ⟨by decide +kernel, rfl⟩
theorem dd_X1_copyFrom_37 : jd cX1_copyFrom 37 (.aload_n 1) 1 38 := ⟨by decide +kernel, rfl⟩
theorem ml_RX1_73 : (Cond.methodLink "MothCustoms$Shed" 73 yX1_copyHolesFrom : Cond) ∈ jj_tb := jj_m (List.mem_of_getElem? (i := 444) (by decide +kernel)) rfl
theorem dd_X1_copyFrom_38 : jd cX1_copyFrom 38 (.invokevirtual 73) 3 41 := ⟨by decide +kernel, rfl⟩
theorem dd_X1_copyFrom_41 : jd cX1_copyFrom 41 (.aload_n 0) 1 42 := ⟨by decide +kernel, rfl⟩
theorem dd_X1_copyFrom_42 : jd cX1_copyFrom 42 (.aload_n 1) 1 43 := ⟨by decide +kernel, rfl⟩
theorem dd_X1_copyFrom_43 : jd cX1_copyFrom 43 (.getfield 52) 3 46 := ⟨by decide +kernel, rfl⟩
theorem dd_X1_copyFrom_46 : jd cX1_copyFrom 46 (.putfield 52) 3 49 := ⟨by decide +kernel, rfl⟩
theorem dd_X1_copyFrom_49 : jd cX1_copyFrom 49 (.aload_n 0) 1 50 := ⟨by decide +kernel, rfl⟩
theorem dd_X1_copyFrom_50 : jd cX1_copyFrom 50 (.aload_n 1) 1 51 := ⟨by decide +kernel, rfl⟩
theorem ml_RX1_77 : (Cond.methodLink "MothCustoms$Shed" 77 yX1_copyLyingFrom : Cond) ∈ jj_tb := jj_m (List.mem_of_getElem? (i := 448) (by decide +kernel)) rfl
theorem dd_X1_copyFrom_51 : jd cX1_copyFrom 51 (.invokevirtual 77) 3 54 := ⟨by decide +kernel, rfl⟩
theorem dd_X1_copyFrom_54 : jd cX1_copyFrom 54 (.aload_n 0) 1 55 := ⟨by decide +kernel, rfl⟩
theorem dd_X1_copyFrom_55 : jd cX1_copyFrom 55 (.aload_n 1) 1 56 := ⟨by decide +kernel, rfl⟩
theorem dd_X1_copyFrom_56 : jd cX1_copyFrom 56 (.getfield 55) 3 59 := ⟨by decide +kernel, rfl⟩
theorem dd_X1_copyFrom_59 : jd cX1_copyFrom 59 (.putfield 55) 3 62 := ⟨by decide +kernel, rfl⟩
theorem dd_X1_copyFrom_62 : jd cX1_copyFrom 62 (.aload_n 1) 1 63 := ⟨by decide +kernel, rfl⟩
theorem fl_RX1_27 : (Cond.fieldLink "MothCustoms$Shed" 27 "MothCustoms$Shed" "kind" "[I" : Cond) ∈ jj_tb := jj_m (List.mem_of_getElem? (i := 158) (by decide +kernel)) rfl
theorem dd_X1_copyFrom_63 : jd cX1_copyFrom 63 (.getfield 27) 3 66 := ⟨by decide +kernel, rfl⟩
theorem dd_X1_copyFrom_66 : jd cX1_copyFrom 66 (.iconst 0) 1 67 := ⟨by decide +kernel, rfl⟩
theorem dd_X1_copyFrom_67 : jd cX1_copyFrom 67 (.aload_n 0) 1 68 := ⟨by decide +kernel, rfl⟩
theorem dd_X1_copyFrom_68 : jd cX1_copyFrom 68 (.getfield 27) 3 71 := ⟨by decide +kernel, rfl⟩
theorem dd_X1_copyFrom_71 : jd cX1_copyFrom 71 (.iconst 0) 1 72 := ⟨by decide +kernel, rfl⟩
theorem dd_X1_copyFrom_72 : jd cX1_copyFrom 72 (.iconst 4) 1 73 := ⟨by decide +kernel, rfl⟩
theorem dd_X1_copyFrom_73 : jd cX1_copyFrom 73 (.invokestatic 67) 3 76 := ⟨by decide +kernel, rfl⟩
theorem dd_X1_copyFrom_76 : jd cX1_copyFrom 76 (.aload_n 1) 1 77 := ⟨by decide +kernel, rfl⟩
theorem fl_RX1_30 : (Cond.fieldLink "MothCustoms$Shed" 30 "MothCustoms$Shed" "taste" "[I" : Cond) ∈ jj_tb := jj_m (List.mem_of_getElem? (i := 159) (by decide +kernel)) rfl
theorem dd_X1_copyFrom_77 : jd cX1_copyFrom 77 (.getfield 30) 3 80 := ⟨by decide +kernel, rfl⟩
theorem dd_X1_copyFrom_80 : jd cX1_copyFrom 80 (.iconst 0) 1 81 := ⟨by decide +kernel, rfl⟩
theorem dd_X1_copyFrom_81 : jd cX1_copyFrom 81 (.aload_n 0) 1 82 := ⟨by decide +kernel, rfl⟩
theorem dd_X1_copyFrom_82 : jd cX1_copyFrom 82 (.getfield 30) 3 85 := ⟨by decide +kernel, rfl⟩
theorem dd_X1_copyFrom_85 : jd cX1_copyFrom 85 (.iconst 0) 1 86 := ⟨by decide +kernel, rfl⟩
theorem dd_X1_copyFrom_86 : jd cX1_copyFrom 86 (.iconst 4) 1 87 := ⟨by decide +kernel, rfl⟩
theorem dd_X1_copyFrom_87 : jd cX1_copyFrom 87 (.invokestatic 67) 3 90 := ⟨by decide +kernel, rfl⟩
theorem dd_X1_copyFrom_90 : jd cX1_copyFrom 90 (.aload_n 1) 1 91 := ⟨by decide +kernel, rfl⟩
theorem fl_RX1_33 : (Cond.fieldLink "MothCustoms$Shed" 33 "MothCustoms$Shed" "hunger" "[I" : Cond) ∈ jj_tb := jj_m (List.mem_of_getElem? (i := 161) (by decide +kernel)) rfl
theorem dd_X1_copyFrom_91 : jd cX1_copyFrom 91 (.getfield 33) 3 94 := ⟨by decide +kernel, rfl⟩
theorem dd_X1_copyFrom_94 : jd cX1_copyFrom 94 (.iconst 0) 1 95 := ⟨by decide +kernel, rfl⟩
theorem dd_X1_copyFrom_95 : jd cX1_copyFrom 95 (.aload_n 0) 1 96 := ⟨by decide +kernel, rfl⟩
theorem dd_X1_copyFrom_96 : jd cX1_copyFrom 96 (.getfield 33) 3 99 := ⟨by decide +kernel, rfl⟩
theorem dd_X1_copyFrom_99 : jd cX1_copyFrom 99 (.iconst 0) 1 100 := ⟨by decide +kernel, rfl⟩
theorem dd_X1_copyFrom_100 : jd cX1_copyFrom 100 (.iconst 4) 1 101 := ⟨by decide +kernel, rfl⟩
theorem dd_X1_copyFrom_101 : jd cX1_copyFrom 101 (.invokestatic 67) 3 104 := ⟨by decide +kernel, rfl⟩
theorem dd_X1_copyFrom_104 : jd cX1_copyFrom 104 (.aload_n 1) 1 105 := ⟨by decide +kernel, rfl⟩
theorem fl_RX1_36 : (Cond.fieldLink "MothCustoms$Shed" 36 "MothCustoms$Shed" "at" "[I" : Cond) ∈ jj_tb := jj_m (List.mem_of_getElem? (i := 162) (by decide +kernel)) rfl
theorem dd_X1_copyFrom_105 : jd cX1_copyFrom 105 (.getfield 36) 3 108 := ⟨by decide +kernel, rfl⟩
theorem dd_X1_copyFrom_108 : jd cX1_copyFrom 108 (.iconst 0) 1 109 := ⟨by decide +kernel, rfl⟩
theorem dd_X1_copyFrom_109 : jd cX1_copyFrom 109 (.aload_n 0) 1 110 := ⟨by decide +kernel, rfl⟩
theorem dd_X1_copyFrom_110 : jd cX1_copyFrom 110 (.getfield 36) 3 113 := ⟨by decide +kernel, rfl⟩
theorem dd_X1_copyFrom_113 : jd cX1_copyFrom 113 (.iconst 0) 1 114 := ⟨by decide +kernel, rfl⟩
theorem dd_X1_copyFrom_114 : jd cX1_copyFrom 114 (.iconst 4) 1 115 := ⟨by decide +kernel, rfl⟩
theorem dd_X1_copyFrom_115 : jd cX1_copyFrom 115 (.invokestatic 67) 3 118 := ⟨by decide +kernel, rfl⟩
theorem dd_X1_copyFrom_118 : jd cX1_copyFrom 118 (.aload_n 0) 1 119 := ⟨by decide +kernel, rfl⟩
theorem dd_X1_copyFrom_119 : jd cX1_copyFrom 119 (.aload_n 1) 1 120 := ⟨by decide +kernel, rfl⟩
theorem dd_X1_copyFrom_120 : jd cX1_copyFrom 120 (.getfield 58) 3 123 := ⟨by decide +kernel, rfl⟩
theorem dd_X1_copyFrom_123 : jd cX1_copyFrom 123 (.putfield 58) 3 126 := ⟨by decide +kernel, rfl⟩
theorem dd_X1_copyFrom_126 : jd cX1_copyFrom 126 (.aload_n 0) 1 127 := ⟨by decide +kernel, rfl⟩
theorem dd_X1_copyFrom_127 : jd cX1_copyFrom 127 (.aload_n 1) 1 128 := ⟨by decide +kernel, rfl⟩
theorem dd_X1_copyFrom_128 : jd cX1_copyFrom 128 (.getfield 39) 3 131 := ⟨by decide +kernel, rfl⟩
theorem dd_X1_copyFrom_131 : jd cX1_copyFrom 131 (.putfield 39) 3 134 := ⟨by decide +kernel, rfl⟩
theorem dd_X1_copyFrom_134 : jd cX1_copyFrom 134 (.aload_n 0) 1 135 := ⟨by decide +kernel, rfl⟩
theorem dd_X1_copyFrom_135 : jd cX1_copyFrom 135 (.aload_n 1) 1 136 := ⟨by decide +kernel, rfl⟩
theorem dd_X1_copyFrom_136 : jd cX1_copyFrom 136 (.getfield 61) 3 139 := ⟨by decide +kernel, rfl⟩
theorem dd_X1_copyFrom_139 : jd cX1_copyFrom 139 (.putfield 61) 3 142 := ⟨by decide +kernel, rfl⟩
theorem dd_X1_copyFrom_142 : jd cX1_copyFrom 142 (.aload_n 0) 1 143 := ⟨by decide +kernel, rfl⟩
theorem dd_X1_copyFrom_143 : jd cX1_copyFrom 143 (.aload_n 1) 1 144 := ⟨by decide +kernel, rfl⟩
theorem dd_X1_copyFrom_144 : jd cX1_copyFrom 144 (.getfield 64) 3 147 := ⟨by decide +kernel, rfl⟩
theorem dd_X1_copyFrom_147 : jd cX1_copyFrom 147 (.putfield 64) 3 150 := ⟨by decide +kernel, rfl⟩
theorem dd_X1_copyFrom_150 : jd cX1_copyFrom 150 (.aload_n 1) 1 151 := ⟨by decide +kernel, rfl⟩
theorem fl_RX1_43 : (Cond.fieldLink "MothCustoms$Shed" 43 "MothCustoms$Shed" "seenBolt" "[I" : Cond) ∈ jj_tb := jj_m (List.mem_of_getElem? (i := 174) (by decide +kernel)) rfl
theorem dd_X1_copyFrom_151 : jd cX1_copyFrom 151 (.getfield 43) 3 154 := ⟨by decide +kernel, rfl⟩
theorem dd_X1_copyFrom_154 : jd cX1_copyFrom 154 (.iconst 0) 1 155 := ⟨by decide +kernel, rfl⟩
theorem dd_X1_copyFrom_155 : jd cX1_copyFrom 155 (.aload_n 0) 1 156 := ⟨by decide +kernel, rfl⟩
theorem dd_X1_copyFrom_156 : jd cX1_copyFrom 156 (.getfield 43) 3 159 := ⟨by decide +kernel, rfl⟩
theorem dd_X1_copyFrom_159 : jd cX1_copyFrom 159 (.iconst 0) 1 160 := ⟨by decide +kernel, rfl⟩
theorem dd_X1_copyFrom_160 : jd cX1_copyFrom 160 (.bipush 6) 2 162 := ⟨by decide +kernel, rfl⟩
theorem dd_X1_copyFrom_162 : jd cX1_copyFrom 162 (.invokestatic 67) 3 165 := ⟨by decide +kernel, rfl⟩
theorem dd_X1_copyFrom_165 : jd cX1_copyFrom 165 (.aload_n 1) 1 166 := ⟨by decide +kernel, rfl⟩
theorem fl_RX1_46 : (Cond.fieldLink "MothCustoms$Shed" 46 "MothCustoms$Shed" "seenHoles" "[I" : Cond) ∈ jj_tb := jj_m (List.mem_of_getElem? (i := 176) (by decide +kernel)) rfl
theorem dd_X1_copyFrom_166 : jd cX1_copyFrom 166 (.getfield 46) 3 169 := ⟨by decide +kernel, rfl⟩
theorem dd_X1_copyFrom_169 : jd cX1_copyFrom 169 (.iconst 0) 1 170 := ⟨by decide +kernel, rfl⟩
theorem dd_X1_copyFrom_170 : jd cX1_copyFrom 170 (.aload_n 0) 1 171 := ⟨by decide +kernel, rfl⟩
theorem dd_X1_copyFrom_171 : jd cX1_copyFrom 171 (.getfield 46) 3 174 := ⟨by decide +kernel, rfl⟩
theorem dd_X1_copyFrom_174 : jd cX1_copyFrom 174 (.iconst 0) 1 175 := ⟨by decide +kernel, rfl⟩
theorem dd_X1_copyFrom_175 : jd cX1_copyFrom 175 (.bipush 6) 2 177 := ⟨by decide +kernel, rfl⟩
theorem dd_X1_copyFrom_177 : jd cX1_copyFrom 177 (.invokestatic 67) 3 180 := ⟨by decide +kernel, rfl⟩
theorem dd_X1_copyFrom_180 : jd cX1_copyFrom 180 (.return_) 1 181 := ⟨by decide +kernel, rfl⟩
theorem m_X1_copyFrom : jmV yX1_copyFrom cX1_copyFrom 2 none 1 := ⟨⟨(jj_m (w := Cond.code yX1_copyFrom cX1_copyFrom 2 none) (List.mem_of_getElem? (i := 440) (by decide +kernel)) rfl), (jj_m (w := Cond.initialized yX1_copyFrom.cls) (List.mem_of_getElem? (i := 66) (by decide +kernel)) rfl), ⟨by decide, by decide⟩, by decide +kernel⟩, (jj_m (w := Cond.instanceMethod yX1_copyFrom) (List.mem_of_getElem? (i := 438) (by decide +kernel)) rfl), (jj_m (w := Cond.selects yX1_copyFrom.cls yX1_copyFrom yX1_copyFrom) (List.mem_of_getElem? (i := 439) (by decide +kernel)) rfl)⟩
def fX1_copyFrom  (S : M2) (N : M2) : Option (M2) :=
  lt (va_up S 0 (fun _ => (N 0 0))) fun S1 =>
  lt (va_up S1 1 (va_cpy (N 1) (S1 1) 0 0 5)) fun S2 =>
  lt (va_up S2 2 (va_cpy (N 2) (S2 2) 0 0 5)) fun S3 =>
  (fX1_copyHolesFrom  S3 N).bind fun q4 =>
  lt (q4) fun S5 =>
  lt (va_up S5 4 (fun _ => (N 4 0))) fun S6 =>
  (fX1_copyLyingFrom  S6 N).bind fun q7 =>
  lt (q7) fun S8 =>
  lt (va_up S8 7 (fun _ => (N 7 0))) fun S9 =>
  lt (va_up S9 8 (va_cpy (N 8) (S9 8) 0 0 4)) fun S10 =>
  lt (va_up S10 9 (va_cpy (N 9) (S10 9) 0 0 4)) fun S11 =>
  lt (va_up S11 10 (va_cpy (N 10) (S11 10) 0 0 4)) fun S12 =>
  lt (va_up S12 11 (va_cpy (N 11) (S12 11) 0 0 4)) fun S13 =>
  lt (va_up S13 12 (fun _ => (N 12 0))) fun S14 =>
  lt (va_up S14 13 (fun _ => (N 13 0))) fun S15 =>
  lt (va_up S15 14 (fun _ => (N 14 0))) fun S16 =>
  lt (va_up S16 15 (fun _ => (N 15 0))) fun S17 =>
  lt (va_up S17 16 (va_cpy (N 16) (S17 16) 0 0 6)) fun S18 =>
  lt (va_up S18 17 (va_cpy (N 17) (S18 17) 0 0 6)) fun S19 =>
  some S19

set_option maxHeartbeats 4000000 in
set_option maxRecDepth 100000 in
theorem tX1_copyFrom (l : Launch) {V : JV M2} {b : Nat} {a : Nat → Nat} (hv : vX1 V b a) {b2 : Nat} {a2 : Nat → Nat} {N : M2} (hr : rX1 V b2 a2 N) (S : M2)  : JC l V yX1_copyFrom cX1_copyFrom 2 none jj_v 2 [.ref b, .ref b2] S ((fX1_copyFrom  S N).map (fun q => ((), q))) := by
  refine jj_of (by decide) (Nat.le_of_ble_eq_true rfl) (fun E hlE hE => ?_)
  unfold fX1_copyFrom
  refine J_sub (L' := [(0, .ref b), (1, .ref b2)]) [0, 1] rfl ?_
  refine J_aload_n hE dd_X1_copyFrom_0 0 rfl rfl ?_
  refine J_aload_n hE dd_X1_copyFrom_1 1 rfl rfl ?_
  refine J_get hE (hr.ob _) jc_X1 0 (by decide) fl_RX1_49 (v := .int (N 0 0)) rfl dd_X1_copyFrom_2 ?_
  refine J_put hE hv jc_X1 0 (by decide) (by decide) fl_RX1_49 rfl rfl rfl (Nat.le_of_ble_eq_true rfl) dd_X1_copyFrom_5 ?_
  refine J_letS (fun S1 => ?_)
  refine J_aload_n hE dd_X1_copyFrom_8 1 rfl rfl ?_
  refine J_get hE (hr.ob _) jc_X1 1 (by decide) fl_RX1_9 (v := .ref (a2 1)) rfl dd_X1_copyFrom_9 ?_
  refine J_iconst hE (v := (0 : Int32)) dd_X1_copyFrom_12 (by decide) ?_
  refine J_aload_n hE dd_X1_copyFrom_13 0 rfl rfl ?_
  refine J_get hE (hv.ob _) jc_X1 1 (by decide) fl_RX1_9 (v := .ref (a 1)) rfl dd_X1_copyFrom_14 ?_
  refine J_iconst hE (v := (0 : Int32)) dd_X1_copyFrom_17 (by decide) ?_
  refine J_iconst hE (v := (5 : Int32)) dd_X1_copyFrom_18 (by decide) ?_
  refine J_copy hE hv 1 (N := 5) (by decide) (hr.arr 1 (n := 5) (ty := .int) (by decide) _) (by decide) (by decide) ml_RX1_67 (Nat.le_of_ble_eq_true rfl) (Nat.le_of_ble_eq_true rfl) dd_X1_copyFrom_19 ?_
  refine J_letS (fun S2 => ?_)
  refine J_aload_n hE dd_X1_copyFrom_22 1 rfl rfl ?_
  refine J_get hE (hr.ob _) jc_X1 2 (by decide) fl_RX1_15 (v := .ref (a2 2)) rfl dd_X1_copyFrom_23 ?_
  refine J_iconst hE (v := (0 : Int32)) dd_X1_copyFrom_26 (by decide) ?_
  refine J_aload_n hE dd_X1_copyFrom_27 0 rfl rfl ?_
  refine J_get hE (hv.ob _) jc_X1 2 (by decide) fl_RX1_15 (v := .ref (a 2)) rfl dd_X1_copyFrom_28 ?_
  refine J_iconst hE (v := (0 : Int32)) dd_X1_copyFrom_31 (by decide) ?_
  refine J_iconst hE (v := (5 : Int32)) dd_X1_copyFrom_32 (by decide) ?_
  refine J_copy hE hv 2 (N := 5) (by decide) (hr.arr 2 (n := 5) (ty := .int) (by decide) _) (by decide) (by decide) ml_RX1_67 (Nat.le_of_ble_eq_true rfl) (Nat.le_of_ble_eq_true rfl) dd_X1_copyFrom_33 ?_
  refine J_letS (fun S3 => ?_)
  refine J_aload_n hE dd_X1_copyFrom_36 0 rfl rfl ?_
  refine J_aload_n hE dd_X1_copyFrom_37 1 rfl rfl ?_
  refine J_invVwv hE (e := fun x => x) (As := [.ref b2]) (st := []) (tX1_copyHolesFrom E.2.1 hv hr S3 ) (hv.ob _) m_X1_copyHolesFrom rfl ml_RX1_73 (Nat.le_of_ble_eq_true rfl) (Nat.le_of_ble_eq_true rfl) rfl (Nat.le_of_ble_eq_true rfl) dd_X1_copyFrom_38 (fun q4 => ?_)
  refine J_letS (fun S5 => ?_)
  refine J_aload_n hE dd_X1_copyFrom_41 0 rfl rfl ?_
  refine J_aload_n hE dd_X1_copyFrom_42 1 rfl rfl ?_
  refine J_get hE (hr.ob _) jc_X1 4 (by decide) fl_RX1_52 (v := .int (N 4 0)) rfl dd_X1_copyFrom_43 ?_
  refine J_put hE hv jc_X1 4 (by decide) (by decide) fl_RX1_52 rfl rfl rfl (Nat.le_of_ble_eq_true rfl) dd_X1_copyFrom_46 ?_
  refine J_letS (fun S6 => ?_)
  refine J_aload_n hE dd_X1_copyFrom_49 0 rfl rfl ?_
  refine J_aload_n hE dd_X1_copyFrom_50 1 rfl rfl ?_
  refine J_invVwv hE (e := fun x => x) (As := [.ref b2]) (st := []) (tX1_copyLyingFrom E.2.1 hv hr S6 ) (hv.ob _) m_X1_copyLyingFrom rfl ml_RX1_77 (Nat.le_of_ble_eq_true rfl) (Nat.le_of_ble_eq_true rfl) rfl (Nat.le_of_ble_eq_true rfl) dd_X1_copyFrom_51 (fun q7 => ?_)
  refine J_letS (fun S8 => ?_)
  refine J_aload_n hE dd_X1_copyFrom_54 0 rfl rfl ?_
  refine J_aload_n hE dd_X1_copyFrom_55 1 rfl rfl ?_
  refine J_get hE (hr.ob _) jc_X1 7 (by decide) fl_RX1_55 (v := .int (N 7 0)) rfl dd_X1_copyFrom_56 ?_
  refine J_put hE hv jc_X1 7 (by decide) (by decide) fl_RX1_55 rfl rfl rfl (Nat.le_of_ble_eq_true rfl) dd_X1_copyFrom_59 ?_
  refine J_letS (fun S9 => ?_)
  refine J_aload_n hE dd_X1_copyFrom_62 1 rfl rfl ?_
  refine J_get hE (hr.ob _) jc_X1 8 (by decide) fl_RX1_27 (v := .ref (a2 8)) rfl dd_X1_copyFrom_63 ?_
  refine J_iconst hE (v := (0 : Int32)) dd_X1_copyFrom_66 (by decide) ?_
  refine J_aload_n hE dd_X1_copyFrom_67 0 rfl rfl ?_
  refine J_get hE (hv.ob _) jc_X1 8 (by decide) fl_RX1_27 (v := .ref (a 8)) rfl dd_X1_copyFrom_68 ?_
  refine J_iconst hE (v := (0 : Int32)) dd_X1_copyFrom_71 (by decide) ?_
  refine J_iconst hE (v := (4 : Int32)) dd_X1_copyFrom_72 (by decide) ?_
  refine J_copy hE hv 8 (N := 4) (by decide) (hr.arr 8 (n := 4) (ty := .int) (by decide) _) (by decide) (by decide) ml_RX1_67 (Nat.le_of_ble_eq_true rfl) (Nat.le_of_ble_eq_true rfl) dd_X1_copyFrom_73 ?_
  refine J_letS (fun S10 => ?_)
  refine J_aload_n hE dd_X1_copyFrom_76 1 rfl rfl ?_
  refine J_get hE (hr.ob _) jc_X1 9 (by decide) fl_RX1_30 (v := .ref (a2 9)) rfl dd_X1_copyFrom_77 ?_
  refine J_iconst hE (v := (0 : Int32)) dd_X1_copyFrom_80 (by decide) ?_
  refine J_aload_n hE dd_X1_copyFrom_81 0 rfl rfl ?_
  refine J_get hE (hv.ob _) jc_X1 9 (by decide) fl_RX1_30 (v := .ref (a 9)) rfl dd_X1_copyFrom_82 ?_
  refine J_iconst hE (v := (0 : Int32)) dd_X1_copyFrom_85 (by decide) ?_
  refine J_iconst hE (v := (4 : Int32)) dd_X1_copyFrom_86 (by decide) ?_
  refine J_copy hE hv 9 (N := 4) (by decide) (hr.arr 9 (n := 4) (ty := .int) (by decide) _) (by decide) (by decide) ml_RX1_67 (Nat.le_of_ble_eq_true rfl) (Nat.le_of_ble_eq_true rfl) dd_X1_copyFrom_87 ?_
  refine J_letS (fun S11 => ?_)
  refine J_aload_n hE dd_X1_copyFrom_90 1 rfl rfl ?_
  refine J_get hE (hr.ob _) jc_X1 10 (by decide) fl_RX1_33 (v := .ref (a2 10)) rfl dd_X1_copyFrom_91 ?_
  refine J_iconst hE (v := (0 : Int32)) dd_X1_copyFrom_94 (by decide) ?_
  refine J_aload_n hE dd_X1_copyFrom_95 0 rfl rfl ?_
  refine J_get hE (hv.ob _) jc_X1 10 (by decide) fl_RX1_33 (v := .ref (a 10)) rfl dd_X1_copyFrom_96 ?_
  refine J_iconst hE (v := (0 : Int32)) dd_X1_copyFrom_99 (by decide) ?_
  refine J_iconst hE (v := (4 : Int32)) dd_X1_copyFrom_100 (by decide) ?_
  refine J_copy hE hv 10 (N := 4) (by decide) (hr.arr 10 (n := 4) (ty := .int) (by decide) _) (by decide) (by decide) ml_RX1_67 (Nat.le_of_ble_eq_true rfl) (Nat.le_of_ble_eq_true rfl) dd_X1_copyFrom_101 ?_
  refine J_letS (fun S12 => ?_)
  refine J_aload_n hE dd_X1_copyFrom_104 1 rfl rfl ?_
  refine J_get hE (hr.ob _) jc_X1 11 (by decide) fl_RX1_36 (v := .ref (a2 11)) rfl dd_X1_copyFrom_105 ?_
  refine J_iconst hE (v := (0 : Int32)) dd_X1_copyFrom_108 (by decide) ?_
  refine J_aload_n hE dd_X1_copyFrom_109 0 rfl rfl ?_
  refine J_get hE (hv.ob _) jc_X1 11 (by decide) fl_RX1_36 (v := .ref (a 11)) rfl dd_X1_copyFrom_110 ?_
  refine J_iconst hE (v := (0 : Int32)) dd_X1_copyFrom_113 (by decide) ?_
  refine J_iconst hE (v := (4 : Int32)) dd_X1_copyFrom_114 (by decide) ?_
  refine J_copy hE hv 11 (N := 4) (by decide) (hr.arr 11 (n := 4) (ty := .int) (by decide) _) (by decide) (by decide) ml_RX1_67 (Nat.le_of_ble_eq_true rfl) (Nat.le_of_ble_eq_true rfl) dd_X1_copyFrom_115 ?_
  refine J_letS (fun S13 => ?_)
  refine J_aload_n hE dd_X1_copyFrom_118 0 rfl rfl ?_
  refine J_aload_n hE dd_X1_copyFrom_119 1 rfl rfl ?_
  refine J_get hE (hr.ob _) jc_X1 12 (by decide) fl_RX1_58 (v := .int (N 12 0)) rfl dd_X1_copyFrom_120 ?_
  refine J_put hE hv jc_X1 12 (by decide) (by decide) fl_RX1_58 rfl rfl rfl (Nat.le_of_ble_eq_true rfl) dd_X1_copyFrom_123 ?_
  refine J_letS (fun S14 => ?_)
  refine J_aload_n hE dd_X1_copyFrom_126 0 rfl rfl ?_
  refine J_aload_n hE dd_X1_copyFrom_127 1 rfl rfl ?_
  refine J_get hE (hr.ob _) jc_X1 13 (by decide) fl_RX1_39 (v := .int (N 13 0)) rfl dd_X1_copyFrom_128 ?_
  refine J_put hE hv jc_X1 13 (by decide) (by decide) fl_RX1_39 rfl rfl rfl (Nat.le_of_ble_eq_true rfl) dd_X1_copyFrom_131 ?_
  refine J_letS (fun S15 => ?_)
  refine J_aload_n hE dd_X1_copyFrom_134 0 rfl rfl ?_
  refine J_aload_n hE dd_X1_copyFrom_135 1 rfl rfl ?_
  refine J_get hE (hr.ob _) jc_X1 14 (by decide) fl_RX1_61 (v := .int (N 14 0)) rfl dd_X1_copyFrom_136 ?_
  refine J_put hE hv jc_X1 14 (by decide) (by decide) fl_RX1_61 rfl rfl rfl (Nat.le_of_ble_eq_true rfl) dd_X1_copyFrom_139 ?_
  refine J_letS (fun S16 => ?_)
  refine J_aload_n hE dd_X1_copyFrom_142 0 rfl rfl ?_
  refine J_aload_n hE dd_X1_copyFrom_143 1 rfl rfl ?_
  refine J_get hE (hr.ob _) jc_X1 15 (by decide) fl_RX1_64 (v := .int (N 15 0)) rfl dd_X1_copyFrom_144 ?_
  refine J_put hE hv jc_X1 15 (by decide) (by decide) fl_RX1_64 rfl rfl rfl (Nat.le_of_ble_eq_true rfl) dd_X1_copyFrom_147 ?_
  refine J_letS (fun S17 => ?_)
  refine J_aload_n hE dd_X1_copyFrom_150 1 rfl rfl ?_
  refine J_get hE (hr.ob _) jc_X1 16 (by decide) fl_RX1_43 (v := .ref (a2 16)) rfl dd_X1_copyFrom_151 ?_
  refine J_iconst hE (v := (0 : Int32)) dd_X1_copyFrom_154 (by decide) ?_
  refine J_aload_n hE dd_X1_copyFrom_155 0 rfl rfl ?_
  refine J_get hE (hv.ob _) jc_X1 16 (by decide) fl_RX1_43 (v := .ref (a 16)) rfl dd_X1_copyFrom_156 ?_
  refine J_iconst hE (v := (0 : Int32)) dd_X1_copyFrom_159 (by decide) ?_
  refine J_bipush hE (v := (6 : Int32)) dd_X1_copyFrom_160 (by decide) ?_
  refine J_copy hE hv 16 (N := 6) (by decide) (hr.arr 16 (n := 6) (ty := .int) (by decide) _) (by decide) (by decide) ml_RX1_67 (Nat.le_of_ble_eq_true rfl) (Nat.le_of_ble_eq_true rfl) dd_X1_copyFrom_162 ?_
  refine J_letS (fun S18 => ?_)
  refine J_aload_n hE dd_X1_copyFrom_165 1 rfl rfl ?_
  refine J_get hE (hr.ob _) jc_X1 17 (by decide) fl_RX1_46 (v := .ref (a2 17)) rfl dd_X1_copyFrom_166 ?_
  refine J_iconst hE (v := (0 : Int32)) dd_X1_copyFrom_169 (by decide) ?_
  refine J_aload_n hE dd_X1_copyFrom_170 0 rfl rfl ?_
  refine J_get hE (hv.ob _) jc_X1 17 (by decide) fl_RX1_46 (v := .ref (a 17)) rfl dd_X1_copyFrom_171 ?_
  refine J_iconst hE (v := (0 : Int32)) dd_X1_copyFrom_174 (by decide) ?_
  refine J_bipush hE (v := (6 : Int32)) dd_X1_copyFrom_175 (by decide) ?_
  refine J_copy hE hv 17 (N := 6) (by decide) (hr.arr 17 (n := 6) (ty := .int) (by decide) _) (by decide) (by decide) ml_RX1_67 (Nat.le_of_ble_eq_true rfl) (Nat.le_of_ble_eq_true rfl) dd_X1_copyFrom_177 ?_
  refine J_letS (fun S19 => ?_)
  exact J_vret hE dd_X1_copyFrom_180 rfl rfl
theorem dd_X1_hasBolt_0 : jd cX1_hasBolt 0 (.iload_n 1) 1 1 := ⟨by decide +kernel, rfl⟩
theorem dd_X1_hasBolt_1 : jd cX1_hasBolt 1 (.iconst 0) 1 2 := ⟨by decide +kernel, rfl⟩
theorem dd_X1_hasBolt_2 : jd cX1_hasBolt 2 (.aload_n 0) 1 3 := ⟨by decide +kernel, rfl⟩
theorem dd_X1_hasBolt_3 : jd cX1_hasBolt 3 (.getfield 49) 3 6 := ⟨by decide +kernel, rfl⟩
theorem dd_X1_hasBolt_6 : jd cX1_hasBolt 6 (.iconst 1) 1 7 := ⟨by decide +kernel, rfl⟩
theorem dd_X1_hasBolt_7 : jd cX1_hasBolt 7 (.isub) 1 8 := ⟨by decide +kernel, rfl⟩
theorem dd_X1_hasBolt_8 : jd cX1_hasBolt 8 (.invokestatic 80) 3 11 := ⟨by decide +kernel, rfl⟩
theorem dd_X1_hasBolt_11 : jd cX1_hasBolt 11 (.ireturn) 1 12 := ⟨by decide +kernel, rfl⟩
theorem m_X1_hasBolt : jmV yX1_hasBolt cX1_hasBolt 2 (some .boolean) 1 := ⟨⟨(jj_m (w := Cond.code yX1_hasBolt cX1_hasBolt 2 (some .boolean)) (List.mem_of_getElem? (i := 476) (by decide +kernel)) rfl), (jj_m (w := Cond.initialized yX1_hasBolt.cls) (List.mem_of_getElem? (i := 66) (by decide +kernel)) rfl), ⟨by decide, by decide⟩, by decide +kernel⟩, (jj_m (w := Cond.instanceMethod yX1_hasBolt) (List.mem_of_getElem? (i := 474) (by decide +kernel)) rfl), (jj_m (w := Cond.selects yX1_hasBolt.cls yX1_hasBolt yX1_hasBolt) (List.mem_of_getElem? (i := 475) (by decide +kernel)) rfl)⟩
def fX1_hasBolt (i1 : Int32) (S : M2) : Option (Int32) :=
  (fX4_within i1 (0 : Int32) ((S 0 0) - (1 : Int32))).bind fun r1 =>
  zb r1 (some r1)

set_option maxHeartbeats 4000000 in
set_option maxRecDepth 100000 in
theorem tX1_hasBolt (l : Launch) {V : JV M2} {b : Nat} {a : Nat → Nat} (hv : vX1 V b a) (S : M2) (i1 : Int32) : JC l V yX1_hasBolt cX1_hasBolt 2 (some .boolean) jj_i 1 [.ref b, .int i1] S ((fX1_hasBolt i1 S).map (fun r => (r, S))) := by
  refine jj_of (by decide) (Nat.le_of_ble_eq_true rfl) (fun E hlE hE => ?_)
  unfold fX1_hasBolt
  refine J_sub (L' := [(0, .ref b), (1, .int i1)]) [0, 1] rfl ?_
  refine J_iload_n hE dd_X1_hasBolt_0 1 rfl rfl ?_
  refine J_iconst hE (v := (0 : Int32)) dd_X1_hasBolt_1 (by decide) ?_
  refine J_aload_n hE dd_X1_hasBolt_2 0 rfl rfl ?_
  refine J_get hE (hv.ob _) jc_X1 0 (by decide) fl_RX1_49 (v := .int (S 0 0)) rfl dd_X1_hasBolt_3 ?_
  refine J_iconst hE (v := (1 : Int32)) dd_X1_hasBolt_6 (by decide) ?_
  refine J_isub hE dd_X1_hasBolt_7 ?_
  refine J_invNri hE (host := "MothCustoms") (As := [.int i1, .int (0 : Int32), .int ((S 0 0) - (1 : Int32))]) (st := []) (tX4_within E.2.1 V S i1 (0 : Int32) ((S 0 0) - (1 : Int32))) m_X4_within s_X4_within rfl (by decide +kernel) (Nat.le_of_ble_eq_true rfl) (Nat.le_of_ble_eq_true rfl) rfl (Nat.le_of_ble_eq_true rfl) dd_X1_hasBolt_8 (fun r1 => ?_)
  refine J_zb (fun hz => ?_)
  exact J_zret hE hz dd_X1_hasBolt_11 rfl rfl
theorem dd_X1_hasMoth_0 : jd cX1_hasMoth 0 (.iload_n 1) 1 1 := ⟨by decide +kernel, rfl⟩
theorem dd_X1_hasMoth_1 : jd cX1_hasMoth 1 (.iconst 0) 1 2 := ⟨by decide +kernel, rfl⟩
theorem dd_X1_hasMoth_2 : jd cX1_hasMoth 2 (.aload_n 0) 1 3 := ⟨by decide +kernel, rfl⟩
theorem dd_X1_hasMoth_3 : jd cX1_hasMoth 3 (.getfield 55) 3 6 := ⟨by decide +kernel, rfl⟩
theorem dd_X1_hasMoth_6 : jd cX1_hasMoth 6 (.iconst 1) 1 7 := ⟨by decide +kernel, rfl⟩
theorem dd_X1_hasMoth_7 : jd cX1_hasMoth 7 (.isub) 1 8 := ⟨by decide +kernel, rfl⟩
theorem dd_X1_hasMoth_8 : jd cX1_hasMoth 8 (.invokestatic 80) 3 11 := ⟨by decide +kernel, rfl⟩
theorem dd_X1_hasMoth_11 : jd cX1_hasMoth 11 (.ireturn) 1 12 := ⟨by decide +kernel, rfl⟩
theorem m_X1_hasMoth : jmV yX1_hasMoth cX1_hasMoth 2 (some .boolean) 1 := ⟨⟨(jj_m (w := Cond.code yX1_hasMoth cX1_hasMoth 2 (some .boolean)) (List.mem_of_getElem? (i := 497) (by decide +kernel)) rfl), (jj_m (w := Cond.initialized yX1_hasMoth.cls) (List.mem_of_getElem? (i := 66) (by decide +kernel)) rfl), ⟨by decide, by decide⟩, by decide +kernel⟩, (jj_m (w := Cond.instanceMethod yX1_hasMoth) (List.mem_of_getElem? (i := 495) (by decide +kernel)) rfl), (jj_m (w := Cond.selects yX1_hasMoth.cls yX1_hasMoth yX1_hasMoth) (List.mem_of_getElem? (i := 496) (by decide +kernel)) rfl)⟩
def fX1_hasMoth (i1 : Int32) (S : M2) : Option (Int32) :=
  (fX4_within i1 (0 : Int32) ((S 7 0) - (1 : Int32))).bind fun r1 =>
  zb r1 (some r1)

set_option maxHeartbeats 4000000 in
set_option maxRecDepth 100000 in
theorem tX1_hasMoth (l : Launch) {V : JV M2} {b : Nat} {a : Nat → Nat} (hv : vX1 V b a) (S : M2) (i1 : Int32) : JC l V yX1_hasMoth cX1_hasMoth 2 (some .boolean) jj_i 1 [.ref b, .int i1] S ((fX1_hasMoth i1 S).map (fun r => (r, S))) := by
  refine jj_of (by decide) (Nat.le_of_ble_eq_true rfl) (fun E hlE hE => ?_)
  unfold fX1_hasMoth
  refine J_sub (L' := [(0, .ref b), (1, .int i1)]) [0, 1] rfl ?_
  refine J_iload_n hE dd_X1_hasMoth_0 1 rfl rfl ?_
  refine J_iconst hE (v := (0 : Int32)) dd_X1_hasMoth_1 (by decide) ?_
  refine J_aload_n hE dd_X1_hasMoth_2 0 rfl rfl ?_
  refine J_get hE (hv.ob _) jc_X1 7 (by decide) fl_RX1_55 (v := .int (S 7 0)) rfl dd_X1_hasMoth_3 ?_
  refine J_iconst hE (v := (1 : Int32)) dd_X1_hasMoth_6 (by decide) ?_
  refine J_isub hE dd_X1_hasMoth_7 ?_
  refine J_invNri hE (host := "MothCustoms") (As := [.int i1, .int (0 : Int32), .int ((S 7 0) - (1 : Int32))]) (st := []) (tX4_within E.2.1 V S i1 (0 : Int32) ((S 7 0) - (1 : Int32))) m_X4_within s_X4_within rfl (by decide +kernel) (Nat.le_of_ble_eq_true rfl) (Nat.le_of_ble_eq_true rfl) rfl (Nat.le_of_ble_eq_true rfl) dd_X1_hasMoth_8 (fun r1 => ?_)
  refine J_zb (fun hz => ?_)
  exact J_zret hE hz dd_X1_hasMoth_11 rfl rfl
theorem dd_X1_hasCamphor_0 : jd cX1_hasCamphor 0 (.aload_n 0) 1 1 := ⟨by decide +kernel, rfl⟩
theorem dd_X1_hasCamphor_1 : jd cX1_hasCamphor 1 (.getfield 52) 3 4 := ⟨by decide +kernel, rfl⟩
theorem dd_X1_hasCamphor_4 : jd cX1_hasCamphor 4 (.iload_n 1) 1 5 := ⟨by decide +kernel, rfl⟩
theorem dd_X1_hasCamphor_5 : jd cX1_hasCamphor 5 (.ishr) 1 6 := ⟨by decide +kernel, rfl⟩
theorem dd_X1_hasCamphor_6 : jd cX1_hasCamphor 6 (.iconst 1) 1 7 := ⟨by decide +kernel, rfl⟩
theorem dd_X1_hasCamphor_7 : jd cX1_hasCamphor 7 (.iand) 1 8 := ⟨by decide +kernel, rfl⟩
theorem dd_X1_hasCamphor_8 : jd cX1_hasCamphor 8 (.iconst 1) 1 9 := ⟨by decide +kernel, rfl⟩
theorem dd_X1_hasCamphor_16 : jd cX1_hasCamphor 16 (.iconst 0) 1 17 := ⟨by decide +kernel, rfl⟩
theorem dd_X1_hasCamphor_17 : jd cX1_hasCamphor 17 (.ireturn) 1 18 := ⟨by decide +kernel, rfl⟩
theorem dd_X1_hasCamphor_12 : jd cX1_hasCamphor 12 (.iconst 1) 1 13 := ⟨by decide +kernel, rfl⟩
theorem dd_X1_hasCamphor_13 : jd cX1_hasCamphor 13 (.goto 4) 3 16 := ⟨by decide +kernel, rfl⟩
theorem dd_X1_hasCamphor_9 : jd cX1_hasCamphor 9 (.if_icmp .ne 7) 3 12 := ⟨by decide +kernel, rfl⟩
theorem m_X1_hasCamphor : jmV yX1_hasCamphor cX1_hasCamphor 2 (some .boolean) 1 := ⟨⟨(jj_m (w := Cond.code yX1_hasCamphor cX1_hasCamphor 2 (some .boolean)) (List.mem_of_getElem? (i := 420) (by decide +kernel)) rfl), (jj_m (w := Cond.initialized yX1_hasCamphor.cls) (List.mem_of_getElem? (i := 66) (by decide +kernel)) rfl), ⟨by decide, by decide⟩, by decide +kernel⟩, (jj_m (w := Cond.instanceMethod yX1_hasCamphor) (List.mem_of_getElem? (i := 418) (by decide +kernel)) rfl), (jj_m (w := Cond.selects yX1_hasCamphor.cls yX1_hasCamphor yX1_hasCamphor) (List.mem_of_getElem? (i := 419) (by decide +kernel)) rfl)⟩
def fX1_hasCamphor (i1 : Int32) (S : M2) : Option (Int32) :=
  if (((S 4 0) >>> (i1 &&& 31)) &&& (1 : Int32)) = (1 : Int32) then
    some (1 : Int32)
  else
    some (0 : Int32)

set_option maxHeartbeats 4000000 in
set_option maxRecDepth 100000 in
theorem tX1_hasCamphor (l : Launch) {V : JV M2} {b : Nat} {a : Nat → Nat} (hv : vX1 V b a) (S : M2) (i1 : Int32) : JC l V yX1_hasCamphor cX1_hasCamphor 2 (some .boolean) jj_i 0 [.ref b, .int i1] S ((fX1_hasCamphor i1 S).map (fun r => (r, S))) := by
  refine jj_of (by decide) (Nat.le_of_ble_eq_true rfl) (fun E hlE hE => ?_)
  unfold fX1_hasCamphor
  refine J_sub (L' := [(0, .ref b), (1, .int i1)]) [0, 1] rfl ?_
  refine J_aload_n hE dd_X1_hasCamphor_0 0 rfl rfl ?_
  refine J_get hE (hv.ob _) jc_X1 4 (by decide) fl_RX1_52 (v := .int (S 4 0)) rfl dd_X1_hasCamphor_1 ?_
  refine J_iload_n hE dd_X1_hasCamphor_4 1 rfl rfl ?_
  refine J_ishr hE dd_X1_hasCamphor_5 ?_
  refine J_iconst hE (v := (1 : Int32)) dd_X1_hasCamphor_6 (by decide) ?_
  refine J_iand hE dd_X1_hasCamphor_7 ?_
  refine J_iconst hE (v := (1 : Int32)) dd_X1_hasCamphor_8 (by decide) ?_
  refine J_icmp_ne hE (tgt := 16) dd_X1_hasCamphor_9 (by decide) (fun c1 => ?_) (fun c1 => ?_)
  · refine J_iconst hE (v := (0 : Int32)) dd_X1_hasCamphor_16 (by decide) ?_
    exact J_zret hE (Or.inl rfl) dd_X1_hasCamphor_17 rfl rfl
  · refine J_iconst hE (v := (1 : Int32)) dd_X1_hasCamphor_12 (by decide) ?_
    refine J_goto hE (tgt := 17) dd_X1_hasCamphor_13 (by decide) ?_
    exact J_zret hE (Or.inr rfl) dd_X1_hasCamphor_17 rfl rfl
theorem dd_X1_putBelow_0 : jd cX1_putBelow 0 (.aload_n 0) 1 1 := ⟨by decide +kernel, rfl⟩
theorem dd_X1_putBelow_1 : jd cX1_putBelow 1 (.getfield 24) 3 4 := ⟨by decide +kernel, rfl⟩
theorem dd_X1_putBelow_4 : jd cX1_putBelow 4 (.iload_n 2) 1 5 := ⟨by decide +kernel, rfl⟩
theorem dd_X1_putBelow_5 : jd cX1_putBelow 5 (.iaload) 1 6 := ⟨by decide +kernel, rfl⟩
theorem dd_X1_putBelow_6 : jd cX1_putBelow 6 (.iconst 5) 1 7 := ⟨by decide +kernel, rfl⟩
theorem dd_X1_putBelow_11 : jd cX1_putBelow 11 (.aload_n 0) 1 12 := ⟨by decide +kernel, rfl⟩
theorem dd_X1_putBelow_12 : jd cX1_putBelow 12 (.getfield 21) 3 15 := ⟨by decide +kernel, rfl⟩
theorem dd_X1_putBelow_15 : jd cX1_putBelow 15 (.iload_n 2) 1 16 := ⟨by decide +kernel, rfl⟩
theorem dd_X1_putBelow_16 : jd cX1_putBelow 16 (.iconst 5) 1 17 := ⟨by decide +kernel, rfl⟩
theorem dd_X1_putBelow_17 : jd cX1_putBelow 17 (.imul) 1 18 := ⟨by decide +kernel, rfl⟩
theorem dd_X1_putBelow_18 : jd cX1_putBelow 18 (.aload_n 0) 1 19 := ⟨by decide +kernel, rfl⟩
theorem dd_X1_putBelow_19 : jd cX1_putBelow 19 (.getfield 24) 3 22 := ⟨by decide +kernel, rfl⟩
theorem dd_X1_putBelow_22 : jd cX1_putBelow 22 (.iload_n 2) 1 23 := ⟨by decide +kernel, rfl⟩
theorem dd_X1_putBelow_23 : jd cX1_putBelow 23 (.iaload) 1 24 := ⟨by decide +kernel, rfl⟩
theorem dd_X1_putBelow_24 : jd cX1_putBelow 24 (.iadd) 1 25 := ⟨by decide +kernel, rfl⟩
theorem dd_X1_putBelow_25 : jd cX1_putBelow 25 (.iload_n 1) 1 26 := ⟨by decide +kernel, rfl⟩
theorem dd_X1_putBelow_26 : jd cX1_putBelow 26 (.iastore) 1 27 := ⟨by decide +kernel, rfl⟩
theorem dd_X1_putBelow_27 : jd cX1_putBelow 27 (.aload_n 0) 1 28 := ⟨by decide +kernel, rfl⟩
theorem dd_X1_putBelow_28 : jd cX1_putBelow 28 (.getfield 24) 3 31 := ⟨by decide +kernel, rfl⟩
theorem dd_X1_putBelow_31 : jd cX1_putBelow 31 (.iload_n 2) 1 32 := ⟨by decide +kernel, rfl⟩
theorem dd_X1_putBelow_32 : jd cX1_putBelow 32 (.dup2) 1 33 := ⟨by decide +kernel, rfl⟩
theorem dd_X1_putBelow_33 : jd cX1_putBelow 33 (.iaload) 1 34 := ⟨by decide +kernel, rfl⟩
theorem dd_X1_putBelow_34 : jd cX1_putBelow 34 (.iconst 1) 1 35 := ⟨by decide +kernel, rfl⟩
theorem dd_X1_putBelow_35 : jd cX1_putBelow 35 (.iadd) 1 36 := ⟨by decide +kernel, rfl⟩
theorem dd_X1_putBelow_36 : jd cX1_putBelow 36 (.iastore) 1 37 := ⟨by decide +kernel, rfl⟩
theorem dd_X1_putBelow_37 : jd cX1_putBelow 37 (.return_) 1 38 := ⟨by decide +kernel, rfl⟩
theorem dd_X1_putBelow_10 : jd cX1_putBelow 10 (.return_) 1 11 := ⟨by decide +kernel, rfl⟩
theorem dd_X1_putBelow_7 : jd cX1_putBelow 7 (.if_icmp .lt 4) 3 10 := ⟨by decide +kernel, rfl⟩
theorem m_X1_putBelow : jmV yX1_putBelow cX1_putBelow 3 none 2 := ⟨⟨(jj_m (w := Cond.code yX1_putBelow cX1_putBelow 3 none) (List.mem_of_getElem? (i := 432) (by decide +kernel)) rfl), (jj_m (w := Cond.initialized yX1_putBelow.cls) (List.mem_of_getElem? (i := 66) (by decide +kernel)) rfl), ⟨by decide, by decide⟩, by decide +kernel⟩, (jj_m (w := Cond.instanceMethod yX1_putBelow) (List.mem_of_getElem? (i := 430) (by decide +kernel)) rfl), (jj_m (w := Cond.selects yX1_putBelow.cls yX1_putBelow yX1_putBelow) (List.mem_of_getElem? (i := 431) (by decide +kernel)) rfl)⟩
def fX1_putBelow (i1 : Int32) (i2 : Int32) (S : M2) : Option (M2) :=
  bnd i2 3 <|
  if (S 6 i2.toNatClampNeg) < (5 : Int32) then
    bnd i2 3 <|
    bnd ((i2 * (5 : Int32)) + (S 6 i2.toNatClampNeg)) 15 <|
    lt (va_up S 5 (upd (S 5) ((i2 * (5 : Int32)) + (S 6 i2.toNatClampNeg)).toNatClampNeg i1)) fun S1 =>
    bnd i2 3 <|
    bnd i2 3 <|
    lt (va_up S1 6 (upd (S1 6) i2.toNatClampNeg ((S1 6 i2.toNatClampNeg) + (1 : Int32)))) fun S2 =>
    some S2
  else
    some S

set_option maxHeartbeats 4000000 in
set_option maxRecDepth 100000 in
theorem tX1_putBelow (l : Launch) {V : JV M2} {b : Nat} {a : Nat → Nat} (hv : vX1 V b a) (S : M2) (i1 : Int32) (i2 : Int32) : JC l V yX1_putBelow cX1_putBelow 3 none jj_v 0 [.ref b, .int i1, .int i2] S ((fX1_putBelow i1 i2 S).map (fun q => ((), q))) := by
  refine jj_of (by decide) (Nat.le_of_ble_eq_true rfl) (fun E hlE hE => ?_)
  unfold fX1_putBelow
  refine J_sub (L' := [(0, .ref b), (1, .int i1), (2, .int i2)]) [0, 1, 2] rfl ?_
  refine J_aload_n hE dd_X1_putBelow_0 0 rfl rfl ?_
  refine J_get hE (hv.ob _) jc_X1 6 (by decide) fl_RX1_24 (v := .ref (a 6)) rfl dd_X1_putBelow_1 ?_
  refine J_iload_n hE dd_X1_putBelow_4 2 rfl rfl ?_
  refine J_ald hE (hv.arr 6 (n := 3) (ty := .int) (by decide) _) dd_X1_putBelow_5 ?_
  refine J_iconst hE (v := (5 : Int32)) dd_X1_putBelow_6 (by decide) ?_
  refine J_icmp_lt hE (tgt := 11) dd_X1_putBelow_7 (by decide) (fun c3 => ?_) (fun c3 => ?_)
  · refine J_aload_n hE dd_X1_putBelow_11 0 rfl rfl ?_
    refine J_get hE (hv.ob _) jc_X1 5 (by decide) fl_RX1_21 (v := .ref (a 5)) rfl dd_X1_putBelow_12 ?_
    refine J_iload_n hE dd_X1_putBelow_15 2 rfl rfl ?_
    refine J_iconst hE (v := (5 : Int32)) dd_X1_putBelow_16 (by decide) ?_
    refine J_imul hE dd_X1_putBelow_17 ?_
    refine J_aload_n hE dd_X1_putBelow_18 0 rfl rfl ?_
    refine J_get hE (hv.ob _) jc_X1 6 (by decide) fl_RX1_24 (v := .ref (a 6)) rfl dd_X1_putBelow_19 ?_
    refine J_iload_n hE dd_X1_putBelow_22 2 rfl rfl ?_
    refine J_ald hE (hv.arr 6 (n := 3) (ty := .int) (by decide) _) dd_X1_putBelow_23 ?_
    refine J_iadd hE dd_X1_putBelow_24 ?_
    refine J_iload_n hE dd_X1_putBelow_25 1 rfl rfl ?_
    refine J_ast hE hv 5 (N := 15) (by decide) dd_X1_putBelow_26 ?_
    refine J_letS (fun S1 => ?_)
    refine J_aload_n hE dd_X1_putBelow_27 0 rfl rfl ?_
    refine J_get hE (hv.ob _) jc_X1 6 (by decide) fl_RX1_24 (v := .ref (a 6)) rfl dd_X1_putBelow_28 ?_
    refine J_iload_n hE dd_X1_putBelow_31 2 rfl rfl ?_
    refine J_dup2 hE dd_X1_putBelow_32 rfl rfl ?_
    refine J_ald hE (hv.arr 6 (n := 3) (ty := .int) (by decide) _) dd_X1_putBelow_33 ?_
    refine J_iconst hE (v := (1 : Int32)) dd_X1_putBelow_34 (by decide) ?_
    refine J_iadd hE dd_X1_putBelow_35 ?_
    refine J_ast hE hv 6 (N := 3) (by decide) dd_X1_putBelow_36 ?_
    refine J_letS (fun S2 => ?_)
    exact J_vret hE dd_X1_putBelow_37 rfl rfl
  · exact J_vret hE dd_X1_putBelow_10 rfl rfl
theorem dd_X1_addBolt_0 : jd cX1_addBolt 0 (.aload_n 0) 1 1 := ⟨by decide +kernel, rfl⟩
theorem dd_X1_addBolt_1 : jd cX1_addBolt 1 (.getfield 49) 3 4 := ⟨by decide +kernel, rfl⟩
theorem dd_X1_addBolt_4 : jd cX1_addBolt 4 (.iconst 5) 1 5 := ⟨by decide +kernel, rfl⟩
theorem dd_X1_addBolt_9 : jd cX1_addBolt 9 (.aload_n 0) 1 10 := ⟨by decide +kernel, rfl⟩
theorem dd_X1_addBolt_10 : jd cX1_addBolt 10 (.getfield 49) 3 13 := ⟨by decide +kernel, rfl⟩
theorem dd_X1_addBolt_13 : jd cX1_addBolt 13 (.istore 4) 2 15 := ⟨by decide +kernel, rfl⟩
theorem dd_X1_addBolt_15 : jd cX1_addBolt 15 (.aload_n 0) 1 16 := ⟨by decide +kernel, rfl⟩
theorem dd_X1_addBolt_16 : jd cX1_addBolt 16 (.dup) 1 17 := ⟨by decide +kernel, rfl⟩
theorem dd_X1_addBolt_17 : jd cX1_addBolt 17 (.getfield 49) 3 20 := ⟨by decide +kernel, rfl⟩
theorem dd_X1_addBolt_20 : jd cX1_addBolt 20 (.iconst 1) 1 21 := ⟨by decide +kernel, rfl⟩
theorem dd_X1_addBolt_21 : jd cX1_addBolt 21 (.iadd) 1 22 := ⟨by decide +kernel, rfl⟩
theorem dd_X1_addBolt_22 : jd cX1_addBolt 22 (.putfield 49) 3 25 := ⟨by decide +kernel, rfl⟩
theorem dd_X1_addBolt_25 : jd cX1_addBolt 25 (.aload_n 0) 1 26 := ⟨by decide +kernel, rfl⟩
theorem dd_X1_addBolt_26 : jd cX1_addBolt 26 (.getfield 9) 3 29 := ⟨by decide +kernel, rfl⟩
theorem dd_X1_addBolt_29 : jd cX1_addBolt 29 (.iload 4) 2 31 := ⟨by decide +kernel, rfl⟩
theorem dd_X1_addBolt_31 : jd cX1_addBolt 31 (.iload_n 1) 1 32 := ⟨by decide +kernel, rfl⟩
theorem dd_X1_addBolt_32 : jd cX1_addBolt 32 (.iastore) 1 33 := ⟨by decide +kernel, rfl⟩
theorem dd_X1_addBolt_33 : jd cX1_addBolt 33 (.aload_n 0) 1 34 := ⟨by decide +kernel, rfl⟩
theorem dd_X1_addBolt_34 : jd cX1_addBolt 34 (.getfield 15) 3 37 := ⟨by decide +kernel, rfl⟩
theorem dd_X1_addBolt_37 : jd cX1_addBolt 37 (.iload 4) 2 39 := ⟨by decide +kernel, rfl⟩
theorem dd_X1_addBolt_39 : jd cX1_addBolt 39 (.iload_n 2) 1 40 := ⟨by decide +kernel, rfl⟩
theorem dd_X1_addBolt_40 : jd cX1_addBolt 40 (.iastore) 1 41 := ⟨by decide +kernel, rfl⟩
theorem dd_X1_addBolt_41 : jd cX1_addBolt 41 (.aload_n 0) 1 42 := ⟨by decide +kernel, rfl⟩
theorem dd_X1_addBolt_42 : jd cX1_addBolt 42 (.getfield 18) 3 45 := ⟨by decide +kernel, rfl⟩
theorem dd_X1_addBolt_45 : jd cX1_addBolt 45 (.iload 4) 2 47 := ⟨by decide +kernel, rfl⟩
theorem dd_X1_addBolt_47 : jd cX1_addBolt 47 (.iconst 0) 1 48 := ⟨by decide +kernel, rfl⟩
theorem dd_X1_addBolt_48 : jd cX1_addBolt 48 (.iastore) 1 49 := ⟨by decide +kernel, rfl⟩
theorem dd_X1_addBolt_49 : jd cX1_addBolt 49 (.aload_n 0) 1 50 := ⟨by decide +kernel, rfl⟩
theorem dd_X1_addBolt_50 : jd cX1_addBolt 50 (.iload 4) 2 52 := ⟨by decide +kernel, rfl⟩
theorem dd_X1_addBolt_52 : jd cX1_addBolt 52 (.iload_n 3) 1 53 := ⟨by decide +kernel, rfl⟩
theorem ml_RX1_84 : (Cond.methodLink "MothCustoms$Shed" 84 yX1_putBelow : Cond) ∈ jj_tb := jj_m (List.mem_of_getElem? (i := 429) (by decide +kernel)) rfl
theorem dd_X1_addBolt_53 : jd cX1_addBolt 53 (.invokevirtual 84) 3 56 := ⟨by decide +kernel, rfl⟩
theorem dd_X1_addBolt_56 : jd cX1_addBolt 56 (.return_) 1 57 := ⟨by decide +kernel, rfl⟩
theorem dd_X1_addBolt_8 : jd cX1_addBolt 8 (.return_) 1 9 := ⟨by decide +kernel, rfl⟩
theorem dd_X1_addBolt_5 : jd cX1_addBolt 5 (.if_icmp .lt 4) 3 8 := ⟨by decide +kernel, rfl⟩
theorem m_X1_addBolt : jmV yX1_addBolt cX1_addBolt 5 none 3 := ⟨⟨(jj_m (w := Cond.code yX1_addBolt cX1_addBolt 5 none) (List.mem_of_getElem? (i := 428) (by decide +kernel)) rfl), (jj_m (w := Cond.initialized yX1_addBolt.cls) (List.mem_of_getElem? (i := 66) (by decide +kernel)) rfl), ⟨by decide, by decide⟩, by decide +kernel⟩, (jj_m (w := Cond.instanceMethod yX1_addBolt) (List.mem_of_getElem? (i := 426) (by decide +kernel)) rfl), (jj_m (w := Cond.selects yX1_addBolt.cls yX1_addBolt yX1_addBolt) (List.mem_of_getElem? (i := 427) (by decide +kernel)) rfl)⟩
def fX1_addBolt (i1 : Int32) (i2 : Int32) (i3 : Int32) (S : M2) : Option (M2) :=
  if (S 0 0) < (5 : Int32) then
    lt ((S 0 0)) fun x1 =>
    lt (va_up S 0 (fun _ => ((S 0 0) + (1 : Int32)))) fun S2 =>
    bnd x1 5 <|
    lt (va_up S2 1 (upd (S2 1) x1.toNatClampNeg i1)) fun S3 =>
    bnd x1 5 <|
    lt (va_up S3 2 (upd (S3 2) x1.toNatClampNeg i2)) fun S4 =>
    bnd x1 5 <|
    lt (va_up S4 3 (upd (S4 3) x1.toNatClampNeg (0 : Int32))) fun S5 =>
    (fX1_putBelow x1 i3 S5).bind fun q6 =>
    lt (q6) fun S7 =>
    some S7
  else
    some S

set_option maxHeartbeats 4000000 in
set_option maxRecDepth 100000 in
theorem tX1_addBolt (l : Launch) {V : JV M2} {b : Nat} {a : Nat → Nat} (hv : vX1 V b a) (S : M2) (i1 : Int32) (i2 : Int32) (i3 : Int32) : JC l V yX1_addBolt cX1_addBolt 5 none jj_v 1 [.ref b, .int i1, .int i2, .int i3] S ((fX1_addBolt i1 i2 i3 S).map (fun q => ((), q))) := by
  refine jj_of (by decide) (Nat.le_of_ble_eq_true rfl) (fun E hlE hE => ?_)
  unfold fX1_addBolt
  refine J_sub (L' := [(0, .ref b), (1, .int i1), (2, .int i2), (3, .int i3)]) [0, 1, 2, 3] rfl ?_
  refine J_aload_n hE dd_X1_addBolt_0 0 rfl rfl ?_
  refine J_get hE (hv.ob _) jc_X1 0 (by decide) fl_RX1_49 (v := .int (S 0 0)) rfl dd_X1_addBolt_1 ?_
  refine J_iconst hE (v := (5 : Int32)) dd_X1_addBolt_4 (by decide) ?_
  refine J_icmp_lt hE (tgt := 9) dd_X1_addBolt_5 (by decide) (fun c8 => ?_) (fun c8 => ?_)
  · refine J_aload_n hE dd_X1_addBolt_9 0 rfl rfl ?_
    refine J_get hE (hv.ob _) jc_X1 0 (by decide) fl_RX1_49 (v := .int (S 0 0)) rfl dd_X1_addBolt_10 ?_
    refine J_leti (fun x1 => ?_)
    refine J_istore hE (L' := [(4, .int x1), (0, .ref b), (1, .int i1), (2, .int i2), (3, .int i3)]) dd_X1_addBolt_13 (Nat.le_of_ble_eq_true rfl) rfl ?_
    refine J_aload_n hE dd_X1_addBolt_15 1 rfl rfl ?_
    refine J_dup hE dd_X1_addBolt_16 rfl ?_
    refine J_get hE (hv.ob _) jc_X1 0 (by decide) fl_RX1_49 (v := .int (S 0 0)) rfl dd_X1_addBolt_17 ?_
    refine J_iconst hE (v := (1 : Int32)) dd_X1_addBolt_20 (by decide) ?_
    refine J_iadd hE dd_X1_addBolt_21 ?_
    refine J_put hE hv jc_X1 0 (by decide) (by decide) fl_RX1_49 rfl rfl rfl (Nat.le_of_ble_eq_true rfl) dd_X1_addBolt_22 ?_
    refine J_letS (fun S2 => ?_)
    refine J_aload_n hE dd_X1_addBolt_25 1 rfl rfl ?_
    refine J_get hE (hv.ob _) jc_X1 1 (by decide) fl_RX1_9 (v := .ref (a 1)) rfl dd_X1_addBolt_26 ?_
    refine J_iload hE dd_X1_addBolt_29 0 rfl ?_
    refine J_iload_n hE dd_X1_addBolt_31 2 rfl rfl ?_
    refine J_ast hE hv 1 (N := 5) (by decide) dd_X1_addBolt_32 ?_
    refine J_letS (fun S3 => ?_)
    refine J_aload_n hE dd_X1_addBolt_33 1 rfl rfl ?_
    refine J_get hE (hv.ob _) jc_X1 2 (by decide) fl_RX1_15 (v := .ref (a 2)) rfl dd_X1_addBolt_34 ?_
    refine J_iload hE dd_X1_addBolt_37 0 rfl ?_
    refine J_iload_n hE dd_X1_addBolt_39 3 rfl rfl ?_
    refine J_ast hE hv 2 (N := 5) (by decide) dd_X1_addBolt_40 ?_
    refine J_letS (fun S4 => ?_)
    refine J_aload_n hE dd_X1_addBolt_41 1 rfl rfl ?_
    refine J_get hE (hv.ob _) jc_X1 3 (by decide) fl_RX1_18 (v := .ref (a 3)) rfl dd_X1_addBolt_42 ?_
    refine J_iload hE dd_X1_addBolt_45 0 rfl ?_
    refine J_iconst hE (v := (0 : Int32)) dd_X1_addBolt_47 (by decide) ?_
    refine J_ast hE hv 3 (N := 5) (by decide) dd_X1_addBolt_48 ?_
    refine J_letS (fun S5 => ?_)
    refine J_aload_n hE dd_X1_addBolt_49 1 rfl rfl ?_
    refine J_iload hE dd_X1_addBolt_50 0 rfl ?_
    refine J_iload_n hE dd_X1_addBolt_52 4 rfl rfl ?_
    refine J_invVwv hE (e := fun x => x) (As := [.int x1, .int i3]) (st := []) (tX1_putBelow E.2.1 hv S5 x1 i3) (hv.ob _) m_X1_putBelow rfl ml_RX1_84 (Nat.le_of_ble_eq_true rfl) (Nat.le_of_ble_eq_true rfl) rfl (Nat.le_of_ble_eq_true rfl) dd_X1_addBolt_53 (fun q6 => ?_)
    refine J_letS (fun S7 => ?_)
    exact J_vret hE dd_X1_addBolt_56 rfl rfl
  · exact J_vret hE dd_X1_addBolt_8 rfl rfl
theorem dd_X1_addMoth_0 : jd cX1_addMoth 0 (.aload_n 0) 1 1 := ⟨by decide +kernel, rfl⟩
theorem dd_X1_addMoth_1 : jd cX1_addMoth 1 (.getfield 55) 3 4 := ⟨by decide +kernel, rfl⟩
theorem dd_X1_addMoth_4 : jd cX1_addMoth 4 (.iconst 4) 1 5 := ⟨by decide +kernel, rfl⟩
theorem dd_X1_addMoth_9 : jd cX1_addMoth 9 (.aload_n 0) 1 10 := ⟨by decide +kernel, rfl⟩
theorem dd_X1_addMoth_10 : jd cX1_addMoth 10 (.getfield 55) 3 13 := ⟨by decide +kernel, rfl⟩
theorem dd_X1_addMoth_13 : jd cX1_addMoth 13 (.istore 5) 2 15 := ⟨by decide +kernel, rfl⟩
theorem dd_X1_addMoth_15 : jd cX1_addMoth 15 (.aload_n 0) 1 16 := ⟨by decide +kernel, rfl⟩
theorem dd_X1_addMoth_16 : jd cX1_addMoth 16 (.dup) 1 17 := ⟨by decide +kernel, rfl⟩
theorem dd_X1_addMoth_17 : jd cX1_addMoth 17 (.getfield 55) 3 20 := ⟨by decide +kernel, rfl⟩
theorem dd_X1_addMoth_20 : jd cX1_addMoth 20 (.iconst 1) 1 21 := ⟨by decide +kernel, rfl⟩
theorem dd_X1_addMoth_21 : jd cX1_addMoth 21 (.iadd) 1 22 := ⟨by decide +kernel, rfl⟩
theorem dd_X1_addMoth_22 : jd cX1_addMoth 22 (.putfield 55) 3 25 := ⟨by decide +kernel, rfl⟩
theorem dd_X1_addMoth_25 : jd cX1_addMoth 25 (.aload_n 0) 1 26 := ⟨by decide +kernel, rfl⟩
theorem dd_X1_addMoth_26 : jd cX1_addMoth 26 (.getfield 27) 3 29 := ⟨by decide +kernel, rfl⟩
theorem dd_X1_addMoth_29 : jd cX1_addMoth 29 (.iload 5) 2 31 := ⟨by decide +kernel, rfl⟩
theorem dd_X1_addMoth_31 : jd cX1_addMoth 31 (.iload_n 1) 1 32 := ⟨by decide +kernel, rfl⟩
theorem dd_X1_addMoth_32 : jd cX1_addMoth 32 (.iastore) 1 33 := ⟨by decide +kernel, rfl⟩
theorem dd_X1_addMoth_33 : jd cX1_addMoth 33 (.aload_n 0) 1 34 := ⟨by decide +kernel, rfl⟩
theorem dd_X1_addMoth_34 : jd cX1_addMoth 34 (.getfield 30) 3 37 := ⟨by decide +kernel, rfl⟩
theorem dd_X1_addMoth_37 : jd cX1_addMoth 37 (.iload 5) 2 39 := ⟨by decide +kernel, rfl⟩
theorem dd_X1_addMoth_39 : jd cX1_addMoth 39 (.iload_n 2) 1 40 := ⟨by decide +kernel, rfl⟩
theorem dd_X1_addMoth_40 : jd cX1_addMoth 40 (.iastore) 1 41 := ⟨by decide +kernel, rfl⟩
theorem dd_X1_addMoth_41 : jd cX1_addMoth 41 (.aload_n 0) 1 42 := ⟨by decide +kernel, rfl⟩
theorem dd_X1_addMoth_42 : jd cX1_addMoth 42 (.getfield 33) 3 45 := ⟨by decide +kernel, rfl⟩
theorem dd_X1_addMoth_45 : jd cX1_addMoth 45 (.iload 5) 2 47 := ⟨by decide +kernel, rfl⟩
theorem dd_X1_addMoth_47 : jd cX1_addMoth 47 (.iload_n 3) 1 48 := ⟨by decide +kernel, rfl⟩
theorem dd_X1_addMoth_48 : jd cX1_addMoth 48 (.iastore) 1 49 := ⟨by decide +kernel, rfl⟩
theorem dd_X1_addMoth_49 : jd cX1_addMoth 49 (.aload_n 0) 1 50 := ⟨by decide +kernel, rfl⟩
theorem dd_X1_addMoth_50 : jd cX1_addMoth 50 (.getfield 36) 3 53 := ⟨by decide +kernel, rfl⟩
theorem dd_X1_addMoth_53 : jd cX1_addMoth 53 (.iload 5) 2 55 := ⟨by decide +kernel, rfl⟩
theorem dd_X1_addMoth_55 : jd cX1_addMoth 55 (.iload 4) 2 57 := ⟨by decide +kernel, rfl⟩
theorem dd_X1_addMoth_57 : jd cX1_addMoth 57 (.iastore) 1 58 := ⟨by decide +kernel, rfl⟩
theorem dd_X1_addMoth_58 : jd cX1_addMoth 58 (.return_) 1 59 := ⟨by decide +kernel, rfl⟩
theorem dd_X1_addMoth_8 : jd cX1_addMoth 8 (.return_) 1 9 := ⟨by decide +kernel, rfl⟩
theorem dd_X1_addMoth_5 : jd cX1_addMoth 5 (.if_icmp .lt 4) 3 8 := ⟨by decide +kernel, rfl⟩
theorem m_X1_addMoth : jmV yX1_addMoth cX1_addMoth 6 none 4 := ⟨⟨(jj_m (w := Cond.code yX1_addMoth cX1_addMoth 6 none) (List.mem_of_getElem? (i := 436) (by decide +kernel)) rfl), (jj_m (w := Cond.initialized yX1_addMoth.cls) (List.mem_of_getElem? (i := 66) (by decide +kernel)) rfl), ⟨by decide, by decide⟩, by decide +kernel⟩, (jj_m (w := Cond.instanceMethod yX1_addMoth) (List.mem_of_getElem? (i := 434) (by decide +kernel)) rfl), (jj_m (w := Cond.selects yX1_addMoth.cls yX1_addMoth yX1_addMoth) (List.mem_of_getElem? (i := 435) (by decide +kernel)) rfl)⟩
def fX1_addMoth (i1 : Int32) (i2 : Int32) (i3 : Int32) (i4 : Int32) (S : M2) : Option (M2) :=
  if (S 7 0) < (4 : Int32) then
    lt ((S 7 0)) fun x1 =>
    lt (va_up S 7 (fun _ => ((S 7 0) + (1 : Int32)))) fun S2 =>
    bnd x1 4 <|
    lt (va_up S2 8 (upd (S2 8) x1.toNatClampNeg i1)) fun S3 =>
    bnd x1 4 <|
    lt (va_up S3 9 (upd (S3 9) x1.toNatClampNeg i2)) fun S4 =>
    bnd x1 4 <|
    lt (va_up S4 10 (upd (S4 10) x1.toNatClampNeg i3)) fun S5 =>
    bnd x1 4 <|
    lt (va_up S5 11 (upd (S5 11) x1.toNatClampNeg i4)) fun S6 =>
    some S6
  else
    some S

set_option maxHeartbeats 4000000 in
set_option maxRecDepth 100000 in
theorem tX1_addMoth (l : Launch) {V : JV M2} {b : Nat} {a : Nat → Nat} (hv : vX1 V b a) (S : M2) (i1 : Int32) (i2 : Int32) (i3 : Int32) (i4 : Int32) : JC l V yX1_addMoth cX1_addMoth 6 none jj_v 0 [.ref b, .int i1, .int i2, .int i3, .int i4] S ((fX1_addMoth i1 i2 i3 i4 S).map (fun q => ((), q))) := by
  refine jj_of (by decide) (Nat.le_of_ble_eq_true rfl) (fun E hlE hE => ?_)
  unfold fX1_addMoth
  refine J_sub (L' := [(0, .ref b), (1, .int i1), (2, .int i2), (3, .int i3), (4, .int i4)]) [0, 1, 2, 3, 4] rfl ?_
  refine J_aload_n hE dd_X1_addMoth_0 0 rfl rfl ?_
  refine J_get hE (hv.ob _) jc_X1 7 (by decide) fl_RX1_55 (v := .int (S 7 0)) rfl dd_X1_addMoth_1 ?_
  refine J_iconst hE (v := (4 : Int32)) dd_X1_addMoth_4 (by decide) ?_
  refine J_icmp_lt hE (tgt := 9) dd_X1_addMoth_5 (by decide) (fun c7 => ?_) (fun c7 => ?_)
  · refine J_aload_n hE dd_X1_addMoth_9 0 rfl rfl ?_
    refine J_get hE (hv.ob _) jc_X1 7 (by decide) fl_RX1_55 (v := .int (S 7 0)) rfl dd_X1_addMoth_10 ?_
    refine J_leti (fun x1 => ?_)
    refine J_istore hE (L' := [(5, .int x1), (0, .ref b), (1, .int i1), (2, .int i2), (3, .int i3), (4, .int i4)]) dd_X1_addMoth_13 (Nat.le_of_ble_eq_true rfl) rfl ?_
    refine J_aload_n hE dd_X1_addMoth_15 1 rfl rfl ?_
    refine J_dup hE dd_X1_addMoth_16 rfl ?_
    refine J_get hE (hv.ob _) jc_X1 7 (by decide) fl_RX1_55 (v := .int (S 7 0)) rfl dd_X1_addMoth_17 ?_
    refine J_iconst hE (v := (1 : Int32)) dd_X1_addMoth_20 (by decide) ?_
    refine J_iadd hE dd_X1_addMoth_21 ?_
    refine J_put hE hv jc_X1 7 (by decide) (by decide) fl_RX1_55 rfl rfl rfl (Nat.le_of_ble_eq_true rfl) dd_X1_addMoth_22 ?_
    refine J_letS (fun S2 => ?_)
    refine J_aload_n hE dd_X1_addMoth_25 1 rfl rfl ?_
    refine J_get hE (hv.ob _) jc_X1 8 (by decide) fl_RX1_27 (v := .ref (a 8)) rfl dd_X1_addMoth_26 ?_
    refine J_iload hE dd_X1_addMoth_29 0 rfl ?_
    refine J_iload_n hE dd_X1_addMoth_31 2 rfl rfl ?_
    refine J_ast hE hv 8 (N := 4) (by decide) dd_X1_addMoth_32 ?_
    refine J_letS (fun S3 => ?_)
    refine J_aload_n hE dd_X1_addMoth_33 1 rfl rfl ?_
    refine J_get hE (hv.ob _) jc_X1 9 (by decide) fl_RX1_30 (v := .ref (a 9)) rfl dd_X1_addMoth_34 ?_
    refine J_iload hE dd_X1_addMoth_37 0 rfl ?_
    refine J_iload_n hE dd_X1_addMoth_39 3 rfl rfl ?_
    refine J_ast hE hv 9 (N := 4) (by decide) dd_X1_addMoth_40 ?_
    refine J_letS (fun S4 => ?_)
    refine J_aload_n hE dd_X1_addMoth_41 1 rfl rfl ?_
    refine J_get hE (hv.ob _) jc_X1 10 (by decide) fl_RX1_33 (v := .ref (a 10)) rfl dd_X1_addMoth_42 ?_
    refine J_iload hE dd_X1_addMoth_45 0 rfl ?_
    refine J_iload_n hE dd_X1_addMoth_47 4 rfl rfl ?_
    refine J_ast hE hv 10 (N := 4) (by decide) dd_X1_addMoth_48 ?_
    refine J_letS (fun S5 => ?_)
    refine J_aload_n hE dd_X1_addMoth_49 1 rfl rfl ?_
    refine J_get hE (hv.ob _) jc_X1 11 (by decide) fl_RX1_36 (v := .ref (a 11)) rfl dd_X1_addMoth_50 ?_
    refine J_iload hE dd_X1_addMoth_53 0 rfl ?_
    refine J_iload hE dd_X1_addMoth_55 5 rfl ?_
    refine J_ast hE hv 11 (N := 4) (by decide) dd_X1_addMoth_57 ?_
    refine J_letS (fun S6 => ?_)
    exact J_vret hE dd_X1_addMoth_58 rfl rfl
  · exact J_vret hE dd_X1_addMoth_8 rfl rfl
theorem dd_X1_spotOf_0 : jd cX1_spotOf 0 (.iconst 0) 1 1 := ⟨by decide +kernel, rfl⟩
theorem dd_X1_spotOf_1 : jd cX1_spotOf 1 (.istore_n 2) 1 2 := ⟨by decide +kernel, rfl⟩
theorem dd_X1_spotOf_2 : jd cX1_spotOf 2 (.iload_n 2) 1 3 := ⟨by decide +kernel, rfl⟩
theorem dd_X1_spotOf_3 : jd cX1_spotOf 3 (.iconst 3) 1 4 := ⟨by decide +kernel, rfl⟩
theorem dd_X1_spotOf_7 : jd cX1_spotOf 7 (.iconst 0) 1 8 := ⟨by decide +kernel, rfl⟩
theorem dd_X1_spotOf_8 : jd cX1_spotOf 8 (.istore_n 3) 1 9 := ⟨by decide +kernel, rfl⟩
theorem dd_X1_spotOf_9 : jd cX1_spotOf 9 (.iload_n 3) 1 10 := ⟨by decide +kernel, rfl⟩
theorem dd_X1_spotOf_10 : jd cX1_spotOf 10 (.aload_n 0) 1 11 := ⟨by decide +kernel, rfl⟩
theorem dd_X1_spotOf_11 : jd cX1_spotOf 11 (.getfield 24) 3 14 := ⟨by decide +kernel, rfl⟩
theorem dd_X1_spotOf_14 : jd cX1_spotOf 14 (.iload_n 2) 1 15 := ⟨by decide +kernel, rfl⟩
theorem dd_X1_spotOf_15 : jd cX1_spotOf 15 (.iaload) 1 16 := ⟨by decide +kernel, rfl⟩
theorem dd_X1_spotOf_19 : jd cX1_spotOf 19 (.aload_n 0) 1 20 := ⟨by decide +kernel, rfl⟩
theorem dd_X1_spotOf_20 : jd cX1_spotOf 20 (.getfield 21) 3 23 := ⟨by decide +kernel, rfl⟩
theorem dd_X1_spotOf_23 : jd cX1_spotOf 23 (.iload_n 2) 1 24 := ⟨by decide +kernel, rfl⟩
theorem dd_X1_spotOf_24 : jd cX1_spotOf 24 (.iconst 5) 1 25 := ⟨by decide +kernel, rfl⟩
theorem dd_X1_spotOf_25 : jd cX1_spotOf 25 (.imul) 1 26 := ⟨by decide +kernel, rfl⟩
theorem dd_X1_spotOf_26 : jd cX1_spotOf 26 (.iload_n 3) 1 27 := ⟨by decide +kernel, rfl⟩
theorem dd_X1_spotOf_27 : jd cX1_spotOf 27 (.iadd) 1 28 := ⟨by decide +kernel, rfl⟩
theorem dd_X1_spotOf_28 : jd cX1_spotOf 28 (.iaload) 1 29 := ⟨by decide +kernel, rfl⟩
theorem dd_X1_spotOf_29 : jd cX1_spotOf 29 (.iload_n 1) 1 30 := ⟨by decide +kernel, rfl⟩
theorem dd_X1_spotOf_39 : jd cX1_spotOf 39 (.iinc 3 1) 3 42 := ⟨by decide +kernel, rfl⟩
theorem dd_X1_spotOf_42 : jd cX1_spotOf 42 (.goto (-33)) 3 45 := ⟨by decide +kernel, rfl⟩
theorem dd_X1_spotOf_33 : jd cX1_spotOf 33 (.iload_n 2) 1 34 := ⟨by decide +kernel, rfl⟩
theorem dd_X1_spotOf_34 : jd cX1_spotOf 34 (.iconst 5) 1 35 := ⟨by decide +kernel, rfl⟩
theorem dd_X1_spotOf_35 : jd cX1_spotOf 35 (.imul) 1 36 := ⟨by decide +kernel, rfl⟩
theorem dd_X1_spotOf_36 : jd cX1_spotOf 36 (.iload_n 3) 1 37 := ⟨by decide +kernel, rfl⟩
theorem dd_X1_spotOf_37 : jd cX1_spotOf 37 (.iadd) 1 38 := ⟨by decide +kernel, rfl⟩
theorem dd_X1_spotOf_38 : jd cX1_spotOf 38 (.ireturn) 1 39 := ⟨by decide +kernel, rfl⟩
theorem dd_X1_spotOf_30 : jd cX1_spotOf 30 (.if_icmp .ne 9) 3 33 := ⟨by decide +kernel, rfl⟩
theorem dd_X1_spotOf_16 : jd cX1_spotOf 16 (.if_icmp .ge 29) 3 19 := ⟨by decide +kernel, rfl⟩
theorem dd_X1_spotOf_45 : jd cX1_spotOf 45 (.iinc 2 1) 3 48 := ⟨by decide +kernel, rfl⟩
theorem dd_X1_spotOf_48 : jd cX1_spotOf 48 (.goto (-46)) 3 51 := ⟨by decide +kernel, rfl⟩
theorem dd_X1_spotOf_4 : jd cX1_spotOf 4 (.if_icmp .ge 47) 3 7 := ⟨by decide +kernel, rfl⟩
theorem dd_X1_spotOf_51 : jd cX1_spotOf 51 (.iconst 0) 1 52 := ⟨by decide +kernel, rfl⟩
theorem dd_X1_spotOf_52 : jd cX1_spotOf 52 (.ireturn) 1 53 := ⟨by decide +kernel, rfl⟩
theorem m_X1_spotOf : jmV yX1_spotOf cX1_spotOf 4 (some .int) 1 := ⟨⟨(jj_m (w := Cond.code yX1_spotOf cX1_spotOf 4 (some .int)) (List.mem_of_getElem? (i := 485) (by decide +kernel)) rfl), (jj_m (w := Cond.initialized yX1_spotOf.cls) (List.mem_of_getElem? (i := 66) (by decide +kernel)) rfl), ⟨by decide, by decide⟩, by decide +kernel⟩, (jj_m (w := Cond.instanceMethod yX1_spotOf) (List.mem_of_getElem? (i := 483) (by decide +kernel)) rfl), (jj_m (w := Cond.selects yX1_spotOf.cls yX1_spotOf yX1_spotOf) (List.mem_of_getElem? (i := 484) (by decide +kernel)) rfl)⟩
def fX1_spotOf_L9 (S : M2) (i1 : Int32) (v1 : Int32) (k45 : Unit → Option (Int32)) : Nat → Int32 → Option (Int32)
  | 0, _ => none
  | n_ + 1, v2 =>
    bnd v1 3 <|
    if (S 6 v1.toNatClampNeg) ≤ v2 then
      k45 ()
    else
      bnd ((v1 * (5 : Int32)) + v2) 15 <|
      if (S 5 ((v1 * (5 : Int32)) + v2).toNatClampNeg) = i1 then
        some ((v1 * (5 : Int32)) + v2)
      else
        lt (v2 + (1 : Int32)) fun x3 =>
        fX1_spotOf_L9 S i1 v1 k45 n_ x3

def fX1_spotOf_L2 (S : M2) (i1 : Int32) (k51 : Unit → Option (Int32)) : Nat → Int32 → Option (Int32)
  | 0, _ => none
  | n_ + 1, v1 =>
    if (3 : Int32) ≤ v1 then
      k51 ()
    else
      fX1_spotOf_L9 S i1 v1
        (fun _ =>
          lt (v1 + (1 : Int32)) fun x7 =>
          fX1_spotOf_L2 S i1 k51 n_ x7)
        400 (0 : Int32)

def fX1_spotOf (i1 : Int32) (S : M2) : Option (Int32) :=
  fX1_spotOf_L2 S i1
    (fun _ =>
      some (0 : Int32))
    400 (0 : Int32)

set_option maxHeartbeats 4000000 in
set_option maxRecDepth 100000 in
theorem tX1_spotOf_L9 {V : JV M2} {b : Nat} {a : Nat → Nat} (hv : vX1 V b a) (S : M2) (i1 : Int32) (v1 : Int32) {E : JE (M2) Int32} (hE : JOk V E cX1_spotOf yX1_spotOf.cls 4 0 (some .int) jj_i) {k45 : Unit → Option (Int32)} (hk45 : ∀ p, J V E (fun r => (r, S)) (k45 p) 45 [(0, .ref b), (1, .int i1), (2, .int v1)] [] S) : ∀ (n_ : Nat) (v2 : Int32), J V E (fun r => (r, S)) (fX1_spotOf_L9 S i1 v1 k45 n_ v2) 9 [(0, .ref b), (1, .int i1), (2, .int v1), (3, .int v2)] [] S := by
  intro n_
  induction n_ with
  | zero =>
    intros
    exact J_none
  | succ n_ ih =>
    intros v2
    rw [fX1_spotOf_L9]
    refine J_iload_n hE dd_X1_spotOf_9 3 rfl rfl ?_
    refine J_aload_n hE dd_X1_spotOf_10 0 rfl rfl ?_
    refine J_get hE (hv.ob _) jc_X1 6 (by decide) fl_RX1_24 (v := .ref (a 6)) rfl dd_X1_spotOf_11 ?_
    refine J_iload_n hE dd_X1_spotOf_14 2 rfl rfl ?_
    refine J_ald hE (hv.arr 6 (n := 3) (ty := .int) (by decide) _) dd_X1_spotOf_15 ?_
    refine J_icmp_ge hE (tgt := 45) dd_X1_spotOf_16 (by decide) (fun c5 => ?_) (fun c5 => ?_)
    · refine J_sub [0, 1, 2] rfl ?_
      exact hk45 ()
    · refine J_aload_n hE dd_X1_spotOf_19 0 rfl rfl ?_
      refine J_get hE (hv.ob _) jc_X1 5 (by decide) fl_RX1_21 (v := .ref (a 5)) rfl dd_X1_spotOf_20 ?_
      refine J_iload_n hE dd_X1_spotOf_23 2 rfl rfl ?_
      refine J_iconst hE (v := (5 : Int32)) dd_X1_spotOf_24 (by decide) ?_
      refine J_imul hE dd_X1_spotOf_25 ?_
      refine J_iload_n hE dd_X1_spotOf_26 3 rfl rfl ?_
      refine J_iadd hE dd_X1_spotOf_27 ?_
      refine J_ald hE (hv.arr 5 (n := 15) (ty := .int) (by decide) _) dd_X1_spotOf_28 ?_
      refine J_iload_n hE dd_X1_spotOf_29 1 rfl rfl ?_
      refine J_icmp_ne hE (tgt := 39) dd_X1_spotOf_30 (by decide) (fun c4 => ?_) (fun c4 => ?_)
      · refine J_iincL hE (v := (v2 + (1 : Int32))) (Lf := fun x3 => [(3, .int x3), (0, .ref b), (1, .int i1), (2, .int v1)]) dd_X1_spotOf_39 (j := 3) rfl (congrArg (v2 + ·) (by decide)) (Nat.le_of_ble_eq_true rfl) (fun _ => rfl) (fun x3 => ?_)
        refine J_goto hE (tgt := 9) dd_X1_spotOf_42 (by decide) ?_
        refine J_sub [1, 2, 3, 0] rfl ?_
        exact ih x3
      · refine J_iload_n hE dd_X1_spotOf_33 2 rfl rfl ?_
        refine J_iconst hE (v := (5 : Int32)) dd_X1_spotOf_34 (by decide) ?_
        refine J_imul hE dd_X1_spotOf_35 ?_
        refine J_iload_n hE dd_X1_spotOf_36 3 rfl rfl ?_
        refine J_iadd hE dd_X1_spotOf_37 ?_
        exact J_iret hE dd_X1_spotOf_38 rfl rfl
set_option maxHeartbeats 4000000 in
set_option maxRecDepth 100000 in
theorem tX1_spotOf_L2 {V : JV M2} {b : Nat} {a : Nat → Nat} (hv : vX1 V b a) (S : M2) (i1 : Int32) {E : JE (M2) Int32} (hE : JOk V E cX1_spotOf yX1_spotOf.cls 4 0 (some .int) jj_i) {k51 : Unit → Option (Int32)} (hk51 : ∀ p, J V E (fun r => (r, S)) (k51 p) 51 [] [] S) : ∀ (n_ : Nat) (v1 : Int32), J V E (fun r => (r, S)) (fX1_spotOf_L2 S i1 k51 n_ v1) 2 [(0, .ref b), (1, .int i1), (2, .int v1)] [] S := by
  intro n_
  induction n_ with
  | zero =>
    intros
    exact J_none
  | succ n_ ih =>
    intros v1
    rw [fX1_spotOf_L2]
    refine J_iload_n hE dd_X1_spotOf_2 2 rfl rfl ?_
    refine J_iconst hE (v := (3 : Int32)) dd_X1_spotOf_3 (by decide) ?_
    refine J_icmp_ge hE (tgt := 51) dd_X1_spotOf_4 (by decide) (fun c8 => ?_) (fun c8 => ?_)
    · refine J_sub [] rfl ?_
      exact hk51 ()
    · refine J_iconst hE (v := (0 : Int32)) dd_X1_spotOf_7 (by decide) ?_
      refine J_istore_n hE (L' := [(3, .int (0 : Int32)), (0, .ref b), (1, .int i1), (2, .int v1)]) dd_X1_spotOf_8 (Nat.le_of_ble_eq_true rfl) rfl rfl ?_
      refine J_sub [1, 2, 3, 0] rfl ?_
      refine tX1_spotOf_L9 hv S i1 v1 hE (fun _ => ?_) 400 (0 : Int32)
      show J V E _ _ 45 [(0, .ref b), (1, .int i1), (2, .int v1)] [] S
      refine J_iincL hE (v := (v1 + (1 : Int32))) (Lf := fun x7 => [(2, .int x7), (0, .ref b), (1, .int i1)]) dd_X1_spotOf_45 (j := 2) rfl (congrArg (v1 + ·) (by decide)) (Nat.le_of_ble_eq_true rfl) (fun _ => rfl) (fun x7 => ?_)
      refine J_goto hE (tgt := 2) dd_X1_spotOf_48 (by decide) ?_
      refine J_sub [1, 2, 0] rfl ?_
      exact ih x7
set_option maxHeartbeats 4000000 in
set_option maxRecDepth 100000 in
theorem tX1_spotOf (l : Launch) {V : JV M2} {b : Nat} {a : Nat → Nat} (hv : vX1 V b a) (S : M2) (i1 : Int32) : JC l V yX1_spotOf cX1_spotOf 4 (some .int) jj_i 0 [.ref b, .int i1] S ((fX1_spotOf i1 S).map (fun r => (r, S))) := by
  refine jj_of (by decide) (Nat.le_of_ble_eq_true rfl) (fun E hlE hE => ?_)
  unfold fX1_spotOf
  refine J_sub (L' := [(0, .ref b), (1, .int i1)]) [0, 1] rfl ?_
  refine J_iconst hE (v := (0 : Int32)) dd_X1_spotOf_0 (by decide) ?_
  refine J_istore_n hE (L' := [(2, .int (0 : Int32)), (0, .ref b), (1, .int i1)]) dd_X1_spotOf_1 (Nat.le_of_ble_eq_true rfl) rfl rfl ?_
  refine J_sub [1, 2, 0] rfl ?_
  refine tX1_spotOf_L2 hv S i1 hE (fun _ => ?_) 400 (0 : Int32)
  show J V E _ _ 51 [] [] S
  refine J_iconst hE (v := (0 : Int32)) dd_X1_spotOf_51 (by decide) ?_
  exact J_iret hE dd_X1_spotOf_52 rfl rfl
theorem dd_X1_baleOf_0 : jd cX1_baleOf 0 (.aload_n 0) 1 1 := ⟨by decide +kernel, rfl⟩
theorem dd_X1_baleOf_1 : jd cX1_baleOf 1 (.iload_n 1) 1 2 := ⟨by decide +kernel, rfl⟩
theorem ml_RX1_88 : (Cond.methodLink "MothCustoms$Shed" 88 yX1_spotOf : Cond) ∈ jj_tb := jj_m (List.mem_of_getElem? (i := 482) (by decide +kernel)) rfl
theorem dd_X1_baleOf_2 : jd cX1_baleOf 2 (.invokevirtual 88) 3 5 := ⟨by decide +kernel, rfl⟩
theorem dd_X1_baleOf_5 : jd cX1_baleOf 5 (.iconst 5) 1 6 := ⟨by decide +kernel, rfl⟩
theorem dd_X1_baleOf_6 : jd cX1_baleOf 6 (.idiv) 1 7 := ⟨by decide +kernel, rfl⟩
theorem dd_X1_baleOf_7 : jd cX1_baleOf 7 (.ireturn) 1 8 := ⟨by decide +kernel, rfl⟩
theorem m_X1_baleOf : jmV yX1_baleOf cX1_baleOf 2 (some .int) 1 := ⟨⟨(jj_m (w := Cond.code yX1_baleOf cX1_baleOf 2 (some .int)) (List.mem_of_getElem? (i := 481) (by decide +kernel)) rfl), (jj_m (w := Cond.initialized yX1_baleOf.cls) (List.mem_of_getElem? (i := 66) (by decide +kernel)) rfl), ⟨by decide, by decide⟩, by decide +kernel⟩, (jj_m (w := Cond.instanceMethod yX1_baleOf) (List.mem_of_getElem? (i := 479) (by decide +kernel)) rfl), (jj_m (w := Cond.selects yX1_baleOf.cls yX1_baleOf yX1_baleOf) (List.mem_of_getElem? (i := 480) (by decide +kernel)) rfl)⟩
def fX1_baleOf (i1 : Int32) (S : M2) : Option (Int32) :=
  (fX1_spotOf i1 S).bind fun r1 =>
  if (5 : Int32) = 0 then none else
  some (r1 / (5 : Int32))

set_option maxHeartbeats 4000000 in
set_option maxRecDepth 100000 in
theorem tX1_baleOf (l : Launch) {V : JV M2} {b : Nat} {a : Nat → Nat} (hv : vX1 V b a) (S : M2) (i1 : Int32) : JC l V yX1_baleOf cX1_baleOf 2 (some .int) jj_i 1 [.ref b, .int i1] S ((fX1_baleOf i1 S).map (fun r => (r, S))) := by
  refine jj_of (by decide) (Nat.le_of_ble_eq_true rfl) (fun E hlE hE => ?_)
  unfold fX1_baleOf
  refine J_sub (L' := [(0, .ref b), (1, .int i1)]) [0, 1] rfl ?_
  refine J_aload_n hE dd_X1_baleOf_0 0 rfl rfl ?_
  refine J_iload_n hE dd_X1_baleOf_1 1 rfl rfl ?_
  refine J_invVri hE (As := [.int i1]) (st := []) (tX1_spotOf E.2.1 hv S i1) (hv.ob _) m_X1_spotOf rfl ml_RX1_88 (Nat.le_of_ble_eq_true rfl) (Nat.le_of_ble_eq_true rfl) rfl (Nat.le_of_ble_eq_true rfl) dd_X1_baleOf_2 (fun r1 => ?_)
  refine J_iconst hE (v := (5 : Int32)) dd_X1_baleOf_5 (by decide) ?_
  refine J_idiv hE dd_X1_baleOf_6 (fun _ => ?_)
  exact J_iret hE dd_X1_baleOf_7 rfl rfl
theorem dd_X1_layerOf_0 : jd cX1_layerOf 0 (.aload_n 0) 1 1 := ⟨by decide +kernel, rfl⟩
theorem dd_X1_layerOf_1 : jd cX1_layerOf 1 (.iload_n 1) 1 2 := ⟨by decide +kernel, rfl⟩
theorem dd_X1_layerOf_2 : jd cX1_layerOf 2 (.invokevirtual 88) 3 5 := ⟨by decide +kernel, rfl⟩
theorem dd_X1_layerOf_5 : jd cX1_layerOf 5 (.iconst 5) 1 6 := ⟨by decide +kernel, rfl⟩
theorem dd_X1_layerOf_6 : jd cX1_layerOf 6 (.irem) 1 7 := ⟨by decide +kernel, rfl⟩
theorem dd_X1_layerOf_7 : jd cX1_layerOf 7 (.ireturn) 1 8 := ⟨by decide +kernel, rfl⟩
theorem m_X1_layerOf : jmV yX1_layerOf cX1_layerOf 2 (some .int) 1 := ⟨⟨(jj_m (w := Cond.code yX1_layerOf cX1_layerOf 2 (some .int)) (List.mem_of_getElem? (i := 489) (by decide +kernel)) rfl), (jj_m (w := Cond.initialized yX1_layerOf.cls) (List.mem_of_getElem? (i := 66) (by decide +kernel)) rfl), ⟨by decide, by decide⟩, by decide +kernel⟩, (jj_m (w := Cond.instanceMethod yX1_layerOf) (List.mem_of_getElem? (i := 487) (by decide +kernel)) rfl), (jj_m (w := Cond.selects yX1_layerOf.cls yX1_layerOf yX1_layerOf) (List.mem_of_getElem? (i := 488) (by decide +kernel)) rfl)⟩
def fX1_layerOf (i1 : Int32) (S : M2) : Option (Int32) :=
  (fX1_spotOf i1 S).bind fun r1 =>
  if (5 : Int32) = 0 then none else
  some (r1 - r1 / (5 : Int32) * (5 : Int32))

set_option maxHeartbeats 4000000 in
set_option maxRecDepth 100000 in
theorem tX1_layerOf (l : Launch) {V : JV M2} {b : Nat} {a : Nat → Nat} (hv : vX1 V b a) (S : M2) (i1 : Int32) : JC l V yX1_layerOf cX1_layerOf 2 (some .int) jj_i 1 [.ref b, .int i1] S ((fX1_layerOf i1 S).map (fun r => (r, S))) := by
  refine jj_of (by decide) (Nat.le_of_ble_eq_true rfl) (fun E hlE hE => ?_)
  unfold fX1_layerOf
  refine J_sub (L' := [(0, .ref b), (1, .int i1)]) [0, 1] rfl ?_
  refine J_aload_n hE dd_X1_layerOf_0 0 rfl rfl ?_
  refine J_iload_n hE dd_X1_layerOf_1 1 rfl rfl ?_
  refine J_invVri hE (As := [.int i1]) (st := []) (tX1_spotOf E.2.1 hv S i1) (hv.ob _) m_X1_spotOf rfl ml_RX1_88 (Nat.le_of_ble_eq_true rfl) (Nat.le_of_ble_eq_true rfl) rfl (Nat.le_of_ble_eq_true rfl) dd_X1_layerOf_2 (fun r1 => ?_)
  refine J_iconst hE (v := (5 : Int32)) dd_X1_layerOf_5 (by decide) ?_
  refine J_irem hE dd_X1_layerOf_6 (fun _ => ?_)
  exact J_iret hE dd_X1_layerOf_7 rfl rfl
theorem dd_X1_takeOut_0 : jd cX1_takeOut 0 (.aload_n 0) 1 1 := ⟨by decide +kernel, rfl⟩
theorem dd_X1_takeOut_1 : jd cX1_takeOut 1 (.iload_n 1) 1 2 := ⟨by decide +kernel, rfl⟩
theorem dd_X1_takeOut_2 : jd cX1_takeOut 2 (.invokevirtual 88) 3 5 := ⟨by decide +kernel, rfl⟩
theorem dd_X1_takeOut_5 : jd cX1_takeOut 5 (.istore_n 2) 1 6 := ⟨by decide +kernel, rfl⟩
theorem dd_X1_takeOut_6 : jd cX1_takeOut 6 (.iload_n 2) 1 7 := ⟨by decide +kernel, rfl⟩
theorem dd_X1_takeOut_7 : jd cX1_takeOut 7 (.iconst 5) 1 8 := ⟨by decide +kernel, rfl⟩
theorem dd_X1_takeOut_8 : jd cX1_takeOut 8 (.idiv) 1 9 := ⟨by decide +kernel, rfl⟩
theorem dd_X1_takeOut_9 : jd cX1_takeOut 9 (.istore_n 3) 1 10 := ⟨by decide +kernel, rfl⟩
theorem dd_X1_takeOut_10 : jd cX1_takeOut 10 (.aload_n 0) 1 11 := ⟨by decide +kernel, rfl⟩
theorem dd_X1_takeOut_11 : jd cX1_takeOut 11 (.getfield 24) 3 14 := ⟨by decide +kernel, rfl⟩
theorem dd_X1_takeOut_14 : jd cX1_takeOut 14 (.iload_n 3) 1 15 := ⟨by decide +kernel, rfl⟩
theorem dd_X1_takeOut_15 : jd cX1_takeOut 15 (.dup2) 1 16 := ⟨by decide +kernel, rfl⟩
theorem dd_X1_takeOut_16 : jd cX1_takeOut 16 (.iaload) 1 17 := ⟨by decide +kernel, rfl⟩
theorem dd_X1_takeOut_17 : jd cX1_takeOut 17 (.iconst 1) 1 18 := ⟨by decide +kernel, rfl⟩
theorem dd_X1_takeOut_18 : jd cX1_takeOut 18 (.isub) 1 19 := ⟨by decide +kernel, rfl⟩
theorem dd_X1_takeOut_19 : jd cX1_takeOut 19 (.iastore) 1 20 := ⟨by decide +kernel, rfl⟩
theorem dd_X1_takeOut_20 : jd cX1_takeOut 20 (.iload_n 2) 1 21 := ⟨by decide +kernel, rfl⟩
theorem dd_X1_takeOut_21 : jd cX1_takeOut 21 (.iconst 5) 1 22 := ⟨by decide +kernel, rfl⟩
theorem dd_X1_takeOut_22 : jd cX1_takeOut 22 (.irem) 1 23 := ⟨by decide +kernel, rfl⟩
theorem dd_X1_takeOut_23 : jd cX1_takeOut 23 (.istore 4) 2 25 := ⟨by decide +kernel, rfl⟩
theorem dd_X1_takeOut_25 : jd cX1_takeOut 25 (.iload 4) 2 27 := ⟨by decide +kernel, rfl⟩
theorem dd_X1_takeOut_27 : jd cX1_takeOut 27 (.aload_n 0) 1 28 := ⟨by decide +kernel, rfl⟩
theorem dd_X1_takeOut_28 : jd cX1_takeOut 28 (.getfield 24) 3 31 := ⟨by decide +kernel, rfl⟩
theorem dd_X1_takeOut_31 : jd cX1_takeOut 31 (.iload_n 3) 1 32 := ⟨by decide +kernel, rfl⟩
theorem dd_X1_takeOut_32 : jd cX1_takeOut 32 (.iaload) 1 33 := ⟨by decide +kernel, rfl⟩
theorem dd_X1_takeOut_36 : jd cX1_takeOut 36 (.aload_n 0) 1 37 := ⟨by decide +kernel, rfl⟩
theorem dd_X1_takeOut_37 : jd cX1_takeOut 37 (.getfield 21) 3 40 := ⟨by decide +kernel, rfl⟩
theorem dd_X1_takeOut_40 : jd cX1_takeOut 40 (.iload_n 3) 1 41 := ⟨by decide +kernel, rfl⟩
theorem dd_X1_takeOut_41 : jd cX1_takeOut 41 (.iconst 5) 1 42 := ⟨by decide +kernel, rfl⟩
theorem dd_X1_takeOut_42 : jd cX1_takeOut 42 (.imul) 1 43 := ⟨by decide +kernel, rfl⟩
theorem dd_X1_takeOut_43 : jd cX1_takeOut 43 (.iload 4) 2 45 := ⟨by decide +kernel, rfl⟩
theorem dd_X1_takeOut_45 : jd cX1_takeOut 45 (.iadd) 1 46 := ⟨by decide +kernel, rfl⟩
theorem dd_X1_takeOut_46 : jd cX1_takeOut 46 (.aload_n 0) 1 47 := ⟨by decide +kernel, rfl⟩
theorem dd_X1_takeOut_47 : jd cX1_takeOut 47 (.getfield 21) 3 50 := ⟨by decide +kernel, rfl⟩
theorem dd_X1_takeOut_50 : jd cX1_takeOut 50 (.iload_n 3) 1 51 := ⟨by decide +kernel, rfl⟩
theorem dd_X1_takeOut_51 : jd cX1_takeOut 51 (.iconst 5) 1 52 := ⟨by decide +kernel, rfl⟩
theorem dd_X1_takeOut_52 : jd cX1_takeOut 52 (.imul) 1 53 := ⟨by decide +kernel, rfl⟩
theorem dd_X1_takeOut_53 : jd cX1_takeOut 53 (.iload 4) 2 55 := ⟨by decide +kernel, rfl⟩
theorem dd_X1_takeOut_55 : jd cX1_takeOut 55 (.iadd) 1 56 := ⟨by decide +kernel, rfl⟩
theorem dd_X1_takeOut_56 : jd cX1_takeOut 56 (.iconst 1) 1 57 := ⟨by decide +kernel, rfl⟩
theorem dd_X1_takeOut_57 : jd cX1_takeOut 57 (.iadd) 1 58 := ⟨by decide +kernel, rfl⟩
theorem dd_X1_takeOut_58 : jd cX1_takeOut 58 (.iaload) 1 59 := ⟨by decide +kernel, rfl⟩
theorem dd_X1_takeOut_59 : jd cX1_takeOut 59 (.iastore) 1 60 := ⟨by decide +kernel, rfl⟩
theorem dd_X1_takeOut_60 : jd cX1_takeOut 60 (.iinc 4 1) 3 63 := ⟨by decide +kernel, rfl⟩
theorem dd_X1_takeOut_63 : jd cX1_takeOut 63 (.goto (-38)) 3 66 := ⟨by decide +kernel, rfl⟩
theorem dd_X1_takeOut_33 : jd cX1_takeOut 33 (.if_icmp .ge 33) 3 36 := ⟨by decide +kernel, rfl⟩
theorem dd_X1_takeOut_66 : jd cX1_takeOut 66 (.return_) 1 67 := ⟨by decide +kernel, rfl⟩
theorem m_X1_takeOut : jmV yX1_takeOut cX1_takeOut 5 none 1 := ⟨⟨(jj_m (w := Cond.code yX1_takeOut cX1_takeOut 5 none) (List.mem_of_getElem? (i := 542) (by decide +kernel)) rfl), (jj_m (w := Cond.initialized yX1_takeOut.cls) (List.mem_of_getElem? (i := 66) (by decide +kernel)) rfl), ⟨by decide, by decide⟩, by decide +kernel⟩, (jj_m (w := Cond.instanceMethod yX1_takeOut) (List.mem_of_getElem? (i := 540) (by decide +kernel)) rfl), (jj_m (w := Cond.selects yX1_takeOut.cls yX1_takeOut yX1_takeOut) (List.mem_of_getElem? (i := 541) (by decide +kernel)) rfl)⟩
def fX1_takeOut_L25 (x2 : Int32) (k66 : M2 → Option (M2)) : Nat → Int32 → M2 → Option (M2)
  | 0, _, _ => none
  | n_ + 1, v5, S6 =>
    bnd x2 3 <|
    if (S6 6 x2.toNatClampNeg) ≤ v5 then
      k66 S6
    else
      bnd (((x2 * (5 : Int32)) + v5) + (1 : Int32)) 15 <|
      bnd ((x2 * (5 : Int32)) + v5) 15 <|
      lt (va_up S6 5 (upd (S6 5) ((x2 * (5 : Int32)) + v5).toNatClampNeg (S6 5 (((x2 * (5 : Int32)) + v5) + (1 : Int32)).toNatClampNeg))) fun S7 =>
      lt (v5 + (1 : Int32)) fun x8 =>
      fX1_takeOut_L25 x2 k66 n_ x8 S7

def fX1_takeOut (i1 : Int32) (S : M2) : Option (M2) :=
  (fX1_spotOf i1 S).bind fun r1 =>
  if (5 : Int32) = 0 then none else
  lt ((r1 / (5 : Int32))) fun x2 =>
  bnd x2 3 <|
  bnd x2 3 <|
  lt (va_up S 6 (upd (S 6) x2.toNatClampNeg ((S 6 x2.toNatClampNeg) - (1 : Int32)))) fun S3 =>
  if (5 : Int32) = 0 then none else
  lt ((r1 - r1 / (5 : Int32) * (5 : Int32))) fun x4 =>
  fX1_takeOut_L25 x2
    (fun p10 =>
      some p10)
    400 x4 S3

set_option maxHeartbeats 4000000 in
set_option maxRecDepth 100000 in
theorem tX1_takeOut_L25 {V : JV M2} {b : Nat} {a : Nat → Nat} (hv : vX1 V b a) (x2 : Int32) {E : JE (M2) Unit} (hE : JOk V E cX1_takeOut yX1_takeOut.cls 5 1 none jj_v) {k66 : M2 → Option (M2)} (hk66 : ∀ p, J V E (fun q => ((), q)) (k66 p) 66 [] [] p) : ∀ (n_ : Nat) (v5 : Int32) (S6 : M2), J V E (fun q => ((), q)) (fX1_takeOut_L25 x2 k66 n_ v5 S6) 25 [(0, .ref b), (3, .int x2), (4, .int v5)] [] S6 := by
  intro n_
  induction n_ with
  | zero =>
    intros
    exact J_none
  | succ n_ ih =>
    intros v5 S6
    rw [fX1_takeOut_L25]
    refine J_iload hE dd_X1_takeOut_25 2 rfl ?_
    refine J_aload_n hE dd_X1_takeOut_27 0 rfl rfl ?_
    refine J_get hE (hv.ob _) jc_X1 6 (by decide) fl_RX1_24 (v := .ref (a 6)) rfl dd_X1_takeOut_28 ?_
    refine J_iload_n hE dd_X1_takeOut_31 1 rfl rfl ?_
    refine J_ald hE (hv.arr 6 (n := 3) (ty := .int) (by decide) _) dd_X1_takeOut_32 ?_
    refine J_icmp_ge hE (tgt := 66) dd_X1_takeOut_33 (by decide) (fun c9 => ?_) (fun c9 => ?_)
    · refine J_sub [] rfl ?_
      exact hk66 S6
    · refine J_aload_n hE dd_X1_takeOut_36 0 rfl rfl ?_
      refine J_get hE (hv.ob _) jc_X1 5 (by decide) fl_RX1_21 (v := .ref (a 5)) rfl dd_X1_takeOut_37 ?_
      refine J_iload_n hE dd_X1_takeOut_40 1 rfl rfl ?_
      refine J_iconst hE (v := (5 : Int32)) dd_X1_takeOut_41 (by decide) ?_
      refine J_imul hE dd_X1_takeOut_42 ?_
      refine J_iload hE dd_X1_takeOut_43 2 rfl ?_
      refine J_iadd hE dd_X1_takeOut_45 ?_
      refine J_aload_n hE dd_X1_takeOut_46 0 rfl rfl ?_
      refine J_get hE (hv.ob _) jc_X1 5 (by decide) fl_RX1_21 (v := .ref (a 5)) rfl dd_X1_takeOut_47 ?_
      refine J_iload_n hE dd_X1_takeOut_50 1 rfl rfl ?_
      refine J_iconst hE (v := (5 : Int32)) dd_X1_takeOut_51 (by decide) ?_
      refine J_imul hE dd_X1_takeOut_52 ?_
      refine J_iload hE dd_X1_takeOut_53 2 rfl ?_
      refine J_iadd hE dd_X1_takeOut_55 ?_
      refine J_iconst hE (v := (1 : Int32)) dd_X1_takeOut_56 (by decide) ?_
      refine J_iadd hE dd_X1_takeOut_57 ?_
      refine J_ald hE (hv.arr 5 (n := 15) (ty := .int) (by decide) _) dd_X1_takeOut_58 ?_
      refine J_ast hE hv 5 (N := 15) (by decide) dd_X1_takeOut_59 ?_
      refine J_letS (fun S7 => ?_)
      refine J_iincL hE (v := (v5 + (1 : Int32))) (Lf := fun x8 => [(4, .int x8), (0, .ref b), (3, .int x2)]) dd_X1_takeOut_60 (j := 2) rfl (congrArg (v5 + ·) (by decide)) (Nat.le_of_ble_eq_true rfl) (fun _ => rfl) (fun x8 => ?_)
      refine J_goto hE (tgt := 25) dd_X1_takeOut_63 (by decide) ?_
      refine J_sub [1, 2, 0] rfl ?_
      exact ih x8 S7
set_option maxHeartbeats 4000000 in
set_option maxRecDepth 100000 in
theorem tX1_takeOut (l : Launch) {V : JV M2} {b : Nat} {a : Nat → Nat} (hv : vX1 V b a) (S : M2) (i1 : Int32) : JC l V yX1_takeOut cX1_takeOut 5 none jj_v 1 [.ref b, .int i1] S ((fX1_takeOut i1 S).map (fun q => ((), q))) := by
  refine jj_of (by decide) (Nat.le_of_ble_eq_true rfl) (fun E hlE hE => ?_)
  unfold fX1_takeOut
  refine J_sub (L' := [(0, .ref b), (1, .int i1)]) [0, 1] rfl ?_
  refine J_aload_n hE dd_X1_takeOut_0 0 rfl rfl ?_
  refine J_iload_n hE dd_X1_takeOut_1 1 rfl rfl ?_
  refine J_invVri hE (As := [.int i1]) (st := []) (tX1_spotOf E.2.1 hv S i1) (hv.ob _) m_X1_spotOf rfl ml_RX1_88 (Nat.le_of_ble_eq_true rfl) (Nat.le_of_ble_eq_true rfl) rfl (Nat.le_of_ble_eq_true rfl) dd_X1_takeOut_2 (fun r1 => ?_)
  refine J_istore_n hE (L' := [(2, .int r1), (0, .ref b), (1, .int i1)]) dd_X1_takeOut_5 (Nat.le_of_ble_eq_true rfl) rfl rfl ?_
  refine J_iload_n hE dd_X1_takeOut_6 0 rfl rfl ?_
  refine J_iconst hE (v := (5 : Int32)) dd_X1_takeOut_7 (by decide) ?_
  refine J_idiv hE dd_X1_takeOut_8 (fun _ => ?_)
  refine J_leti (fun x2 => ?_)
  refine J_istore_n hE (L' := [(3, .int x2), (2, .int r1), (0, .ref b), (1, .int i1)]) dd_X1_takeOut_9 (Nat.le_of_ble_eq_true rfl) rfl rfl ?_
  refine J_aload_n hE dd_X1_takeOut_10 2 rfl rfl ?_
  refine J_get hE (hv.ob _) jc_X1 6 (by decide) fl_RX1_24 (v := .ref (a 6)) rfl dd_X1_takeOut_11 ?_
  refine J_iload_n hE dd_X1_takeOut_14 0 rfl rfl ?_
  refine J_dup2 hE dd_X1_takeOut_15 rfl rfl ?_
  refine J_ald hE (hv.arr 6 (n := 3) (ty := .int) (by decide) _) dd_X1_takeOut_16 ?_
  refine J_iconst hE (v := (1 : Int32)) dd_X1_takeOut_17 (by decide) ?_
  refine J_isub hE dd_X1_takeOut_18 ?_
  refine J_ast hE hv 6 (N := 3) (by decide) dd_X1_takeOut_19 ?_
  refine J_letS (fun S3 => ?_)
  refine J_iload_n hE dd_X1_takeOut_20 1 rfl rfl ?_
  refine J_iconst hE (v := (5 : Int32)) dd_X1_takeOut_21 (by decide) ?_
  refine J_irem hE dd_X1_takeOut_22 (fun _ => ?_)
  refine J_leti (fun x4 => ?_)
  refine J_istore hE (L' := [(4, .int x4), (3, .int x2), (2, .int r1), (0, .ref b), (1, .int i1)]) dd_X1_takeOut_23 (Nat.le_of_ble_eq_true rfl) rfl ?_
  refine J_sub [3, 1, 0] rfl ?_
  refine tX1_takeOut_L25 hv x2 hE (fun p10 => ?_) 400 x4 S3
  show J V E _ _ 66 [] [] p10
  exact J_vret hE dd_X1_takeOut_66 rfl rfl
theorem dd_X1_putOnTop_0 : jd cX1_putOnTop 0 (.aload_n 0) 1 1 := ⟨by decide +kernel, rfl⟩
theorem dd_X1_putOnTop_1 : jd cX1_putOnTop 1 (.iload_n 1) 1 2 := ⟨by decide +kernel, rfl⟩
theorem ml_RX1_92 : (Cond.methodLink "MothCustoms$Shed" 92 yX1_takeOut : Cond) ∈ jj_tb := jj_m (List.mem_of_getElem? (i := 539) (by decide +kernel)) rfl
theorem dd_X1_putOnTop_2 : jd cX1_putOnTop 2 (.invokevirtual 92) 3 5 := ⟨by decide +kernel, rfl⟩
theorem dd_X1_putOnTop_5 : jd cX1_putOnTop 5 (.aload_n 0) 1 6 := ⟨by decide +kernel, rfl⟩
theorem dd_X1_putOnTop_6 : jd cX1_putOnTop 6 (.getfield 24) 3 9 := ⟨by decide +kernel, rfl⟩
theorem dd_X1_putOnTop_9 : jd cX1_putOnTop 9 (.iload_n 2) 1 10 := ⟨by decide +kernel, rfl⟩
theorem dd_X1_putOnTop_10 : jd cX1_putOnTop 10 (.iaload) 1 11 := ⟨by decide +kernel, rfl⟩
theorem dd_X1_putOnTop_11 : jd cX1_putOnTop 11 (.istore_n 3) 1 12 := ⟨by decide +kernel, rfl⟩
theorem dd_X1_putOnTop_12 : jd cX1_putOnTop 12 (.iload_n 3) 1 13 := ⟨by decide +kernel, rfl⟩
theorem dd_X1_putOnTop_16 : jd cX1_putOnTop 16 (.aload_n 0) 1 17 := ⟨by decide +kernel, rfl⟩
theorem dd_X1_putOnTop_17 : jd cX1_putOnTop 17 (.getfield 21) 3 20 := ⟨by decide +kernel, rfl⟩
theorem dd_X1_putOnTop_20 : jd cX1_putOnTop 20 (.iload_n 2) 1 21 := ⟨by decide +kernel, rfl⟩
theorem dd_X1_putOnTop_21 : jd cX1_putOnTop 21 (.iconst 5) 1 22 := ⟨by decide +kernel, rfl⟩
theorem dd_X1_putOnTop_22 : jd cX1_putOnTop 22 (.imul) 1 23 := ⟨by decide +kernel, rfl⟩
theorem dd_X1_putOnTop_23 : jd cX1_putOnTop 23 (.iload_n 3) 1 24 := ⟨by decide +kernel, rfl⟩
theorem dd_X1_putOnTop_24 : jd cX1_putOnTop 24 (.iadd) 1 25 := ⟨by decide +kernel, rfl⟩
theorem dd_X1_putOnTop_25 : jd cX1_putOnTop 25 (.aload_n 0) 1 26 := ⟨by decide +kernel, rfl⟩
theorem dd_X1_putOnTop_26 : jd cX1_putOnTop 26 (.getfield 21) 3 29 := ⟨by decide +kernel, rfl⟩
theorem dd_X1_putOnTop_29 : jd cX1_putOnTop 29 (.iload_n 2) 1 30 := ⟨by decide +kernel, rfl⟩
theorem dd_X1_putOnTop_30 : jd cX1_putOnTop 30 (.iconst 5) 1 31 := ⟨by decide +kernel, rfl⟩
theorem dd_X1_putOnTop_31 : jd cX1_putOnTop 31 (.imul) 1 32 := ⟨by decide +kernel, rfl⟩
theorem dd_X1_putOnTop_32 : jd cX1_putOnTop 32 (.iload_n 3) 1 33 := ⟨by decide +kernel, rfl⟩
theorem dd_X1_putOnTop_33 : jd cX1_putOnTop 33 (.iadd) 1 34 := ⟨by decide +kernel, rfl⟩
theorem dd_X1_putOnTop_34 : jd cX1_putOnTop 34 (.iconst 1) 1 35 := ⟨by decide +kernel, rfl⟩
theorem dd_X1_putOnTop_35 : jd cX1_putOnTop 35 (.isub) 1 36 := ⟨by decide +kernel, rfl⟩
theorem dd_X1_putOnTop_36 : jd cX1_putOnTop 36 (.iaload) 1 37 := ⟨by decide +kernel, rfl⟩
theorem dd_X1_putOnTop_37 : jd cX1_putOnTop 37 (.iastore) 1 38 := ⟨by decide +kernel, rfl⟩
theorem dd_X1_putOnTop_38 : jd cX1_putOnTop 38 (.iinc 3 (-1)) 3 41 := ⟨by decide +kernel, rfl⟩
theorem dd_X1_putOnTop_41 : jd cX1_putOnTop 41 (.goto (-29)) 3 44 := ⟨by decide +kernel, rfl⟩
theorem dd_X1_putOnTop_13 : jd cX1_putOnTop 13 (.ifCond .le 31) 3 16 := ⟨by decide +kernel, rfl⟩
theorem dd_X1_putOnTop_44 : jd cX1_putOnTop 44 (.aload_n 0) 1 45 := ⟨by decide +kernel, rfl⟩
theorem dd_X1_putOnTop_45 : jd cX1_putOnTop 45 (.getfield 21) 3 48 := ⟨by decide +kernel, rfl⟩
theorem dd_X1_putOnTop_48 : jd cX1_putOnTop 48 (.iload_n 2) 1 49 := ⟨by decide +kernel, rfl⟩
theorem dd_X1_putOnTop_49 : jd cX1_putOnTop 49 (.iconst 5) 1 50 := ⟨by decide +kernel, rfl⟩
theorem dd_X1_putOnTop_50 : jd cX1_putOnTop 50 (.imul) 1 51 := ⟨by decide +kernel, rfl⟩
theorem dd_X1_putOnTop_51 : jd cX1_putOnTop 51 (.iload_n 1) 1 52 := ⟨by decide +kernel, rfl⟩
theorem dd_X1_putOnTop_52 : jd cX1_putOnTop 52 (.iastore) 1 53 := ⟨by decide +kernel, rfl⟩
theorem dd_X1_putOnTop_53 : jd cX1_putOnTop 53 (.aload_n 0) 1 54 := ⟨by decide +kernel, rfl⟩
theorem dd_X1_putOnTop_54 : jd cX1_putOnTop 54 (.getfield 24) 3 57 := ⟨by decide +kernel, rfl⟩
theorem dd_X1_putOnTop_57 : jd cX1_putOnTop 57 (.iload_n 2) 1 58 := ⟨by decide +kernel, rfl⟩
theorem dd_X1_putOnTop_58 : jd cX1_putOnTop 58 (.dup2) 1 59 := ⟨by decide +kernel, rfl⟩
theorem dd_X1_putOnTop_59 : jd cX1_putOnTop 59 (.iaload) 1 60 := ⟨by decide +kernel, rfl⟩
theorem dd_X1_putOnTop_60 : jd cX1_putOnTop 60 (.iconst 1) 1 61 := ⟨by decide +kernel, rfl⟩
theorem dd_X1_putOnTop_61 : jd cX1_putOnTop 61 (.iadd) 1 62 := ⟨by decide +kernel, rfl⟩
theorem dd_X1_putOnTop_62 : jd cX1_putOnTop 62 (.iastore) 1 63 := ⟨by decide +kernel, rfl⟩
theorem dd_X1_putOnTop_63 : jd cX1_putOnTop 63 (.return_) 1 64 := ⟨by decide +kernel, rfl⟩
theorem m_X1_putOnTop : jmV yX1_putOnTop cX1_putOnTop 4 none 2 := ⟨⟨(jj_m (w := Cond.code yX1_putOnTop cX1_putOnTop 4 none) (List.mem_of_getElem? (i := 538) (by decide +kernel)) rfl), (jj_m (w := Cond.initialized yX1_putOnTop.cls) (List.mem_of_getElem? (i := 66) (by decide +kernel)) rfl), ⟨by decide, by decide⟩, by decide +kernel⟩, (jj_m (w := Cond.instanceMethod yX1_putOnTop) (List.mem_of_getElem? (i := 536) (by decide +kernel)) rfl), (jj_m (w := Cond.selects yX1_putOnTop.cls yX1_putOnTop yX1_putOnTop) (List.mem_of_getElem? (i := 537) (by decide +kernel)) rfl)⟩
def fX1_putOnTop_L12 (i1 : Int32) (i2 : Int32) (k44 : M2 → Option (M2)) : Nat → Int32 → M2 → Option (M2)
  | 0, _, _ => none
  | n_ + 1, v4, S5 =>
    if v4 ≤ 0 then
      k44 S5
    else
      bnd (((i2 * (5 : Int32)) + v4) - (1 : Int32)) 15 <|
      bnd ((i2 * (5 : Int32)) + v4) 15 <|
      lt (va_up S5 5 (upd (S5 5) ((i2 * (5 : Int32)) + v4).toNatClampNeg (S5 5 (((i2 * (5 : Int32)) + v4) - (1 : Int32)).toNatClampNeg))) fun S6 =>
      lt (v4 + (-1 : Int32)) fun x7 =>
      fX1_putOnTop_L12 i1 i2 k44 n_ x7 S6

def fX1_putOnTop (i1 : Int32) (i2 : Int32) (S : M2) : Option (M2) :=
  (fX1_takeOut i1 S).bind fun q1 =>
  lt (q1) fun S2 =>
  bnd i2 3 <|
  lt ((S2 6 i2.toNatClampNeg)) fun x3 =>
  fX1_putOnTop_L12 i1 i2
    (fun p9 =>
      bnd (i2 * (5 : Int32)) 15 <|
      lt (va_up p9 5 (upd (p9 5) (i2 * (5 : Int32)).toNatClampNeg i1)) fun S10 =>
      bnd i2 3 <|
      bnd i2 3 <|
      lt (va_up S10 6 (upd (S10 6) i2.toNatClampNeg ((S10 6 i2.toNatClampNeg) + (1 : Int32)))) fun S11 =>
      some S11)
    400 x3 S2

set_option maxHeartbeats 4000000 in
set_option maxRecDepth 100000 in
theorem tX1_putOnTop_L12 {V : JV M2} {b : Nat} {a : Nat → Nat} (hv : vX1 V b a) (i1 : Int32) (i2 : Int32) {E : JE (M2) Unit} (hE : JOk V E cX1_putOnTop yX1_putOnTop.cls 4 2 none jj_v) {k44 : M2 → Option (M2)} (hk44 : ∀ p, J V E (fun q => ((), q)) (k44 p) 44 [(0, .ref b), (1, .int i1), (2, .int i2)] [] p) : ∀ (n_ : Nat) (v4 : Int32) (S5 : M2), J V E (fun q => ((), q)) (fX1_putOnTop_L12 i1 i2 k44 n_ v4 S5) 12 [(0, .ref b), (1, .int i1), (2, .int i2), (3, .int v4)] [] S5 := by
  intro n_
  induction n_ with
  | zero =>
    intros
    exact J_none
  | succ n_ ih =>
    intros v4 S5
    rw [fX1_putOnTop_L12]
    refine J_iload_n hE dd_X1_putOnTop_12 3 rfl rfl ?_
    refine J_if_le hE (tgt := 44) dd_X1_putOnTop_13 (by decide) (fun c8 => ?_) (fun c8 => ?_)
    · refine J_sub [0, 1, 2] rfl ?_
      exact hk44 S5
    · refine J_aload_n hE dd_X1_putOnTop_16 0 rfl rfl ?_
      refine J_get hE (hv.ob _) jc_X1 5 (by decide) fl_RX1_21 (v := .ref (a 5)) rfl dd_X1_putOnTop_17 ?_
      refine J_iload_n hE dd_X1_putOnTop_20 2 rfl rfl ?_
      refine J_iconst hE (v := (5 : Int32)) dd_X1_putOnTop_21 (by decide) ?_
      refine J_imul hE dd_X1_putOnTop_22 ?_
      refine J_iload_n hE dd_X1_putOnTop_23 3 rfl rfl ?_
      refine J_iadd hE dd_X1_putOnTop_24 ?_
      refine J_aload_n hE dd_X1_putOnTop_25 0 rfl rfl ?_
      refine J_get hE (hv.ob _) jc_X1 5 (by decide) fl_RX1_21 (v := .ref (a 5)) rfl dd_X1_putOnTop_26 ?_
      refine J_iload_n hE dd_X1_putOnTop_29 2 rfl rfl ?_
      refine J_iconst hE (v := (5 : Int32)) dd_X1_putOnTop_30 (by decide) ?_
      refine J_imul hE dd_X1_putOnTop_31 ?_
      refine J_iload_n hE dd_X1_putOnTop_32 3 rfl rfl ?_
      refine J_iadd hE dd_X1_putOnTop_33 ?_
      refine J_iconst hE (v := (1 : Int32)) dd_X1_putOnTop_34 (by decide) ?_
      refine J_isub hE dd_X1_putOnTop_35 ?_
      refine J_ald hE (hv.arr 5 (n := 15) (ty := .int) (by decide) _) dd_X1_putOnTop_36 ?_
      refine J_ast hE hv 5 (N := 15) (by decide) dd_X1_putOnTop_37 ?_
      refine J_letS (fun S6 => ?_)
      refine J_iincL hE (v := (v4 + (-1 : Int32))) (Lf := fun x7 => [(3, .int x7), (0, .ref b), (1, .int i1), (2, .int i2)]) dd_X1_putOnTop_38 (j := 3) rfl (congrArg (v4 + ·) (by decide)) (Nat.le_of_ble_eq_true rfl) (fun _ => rfl) (fun x7 => ?_)
      refine J_goto hE (tgt := 12) dd_X1_putOnTop_41 (by decide) ?_
      refine J_sub [1, 2, 3, 0] rfl ?_
      exact ih x7 S6
set_option maxHeartbeats 4000000 in
set_option maxRecDepth 100000 in
theorem tX1_putOnTop (l : Launch) {V : JV M2} {b : Nat} {a : Nat → Nat} (hv : vX1 V b a) (S : M2) (i1 : Int32) (i2 : Int32) : JC l V yX1_putOnTop cX1_putOnTop 4 none jj_v 2 [.ref b, .int i1, .int i2] S ((fX1_putOnTop i1 i2 S).map (fun q => ((), q))) := by
  refine jj_of (by decide) (Nat.le_of_ble_eq_true rfl) (fun E hlE hE => ?_)
  unfold fX1_putOnTop
  refine J_sub (L' := [(0, .ref b), (1, .int i1), (2, .int i2)]) [0, 1, 2] rfl ?_
  refine J_aload_n hE dd_X1_putOnTop_0 0 rfl rfl ?_
  refine J_iload_n hE dd_X1_putOnTop_1 1 rfl rfl ?_
  refine J_invVwv hE (e := fun x => x) (As := [.int i1]) (st := []) (tX1_takeOut E.2.1 hv S i1) (hv.ob _) m_X1_takeOut rfl ml_RX1_92 (Nat.le_of_ble_eq_true rfl) (Nat.le_of_ble_eq_true rfl) rfl (Nat.le_of_ble_eq_true rfl) dd_X1_putOnTop_2 (fun q1 => ?_)
  refine J_letS (fun S2 => ?_)
  refine J_aload_n hE dd_X1_putOnTop_5 0 rfl rfl ?_
  refine J_get hE (hv.ob _) jc_X1 6 (by decide) fl_RX1_24 (v := .ref (a 6)) rfl dd_X1_putOnTop_6 ?_
  refine J_iload_n hE dd_X1_putOnTop_9 2 rfl rfl ?_
  refine J_ald hE (hv.arr 6 (n := 3) (ty := .int) (by decide) _) dd_X1_putOnTop_10 ?_
  refine J_leti (fun x3 => ?_)
  refine J_istore_n hE (L' := [(3, .int x3), (0, .ref b), (1, .int i1), (2, .int i2)]) dd_X1_putOnTop_11 (Nat.le_of_ble_eq_true rfl) rfl rfl ?_
  refine J_sub [1, 2, 3, 0] rfl ?_
  refine tX1_putOnTop_L12 hv i1 i2 hE (fun p9 => ?_) 400 x3 S2
  show J V E _ _ 44 [(0, .ref b), (1, .int i1), (2, .int i2)] [] p9
  refine J_aload_n hE dd_X1_putOnTop_44 0 rfl rfl ?_
  refine J_get hE (hv.ob _) jc_X1 5 (by decide) fl_RX1_21 (v := .ref (a 5)) rfl dd_X1_putOnTop_45 ?_
  refine J_iload_n hE dd_X1_putOnTop_48 2 rfl rfl ?_
  refine J_iconst hE (v := (5 : Int32)) dd_X1_putOnTop_49 (by decide) ?_
  refine J_imul hE dd_X1_putOnTop_50 ?_
  refine J_iload_n hE dd_X1_putOnTop_51 1 rfl rfl ?_
  refine J_ast hE hv 5 (N := 15) (by decide) dd_X1_putOnTop_52 ?_
  refine J_letS (fun S10 => ?_)
  refine J_aload_n hE dd_X1_putOnTop_53 0 rfl rfl ?_
  refine J_get hE (hv.ob _) jc_X1 6 (by decide) fl_RX1_24 (v := .ref (a 6)) rfl dd_X1_putOnTop_54 ?_
  refine J_iload_n hE dd_X1_putOnTop_57 2 rfl rfl ?_
  refine J_dup2 hE dd_X1_putOnTop_58 rfl rfl ?_
  refine J_ald hE (hv.arr 6 (n := 3) (ty := .int) (by decide) _) dd_X1_putOnTop_59 ?_
  refine J_iconst hE (v := (1 : Int32)) dd_X1_putOnTop_60 (by decide) ?_
  refine J_iadd hE dd_X1_putOnTop_61 ?_
  refine J_ast hE hv 6 (N := 3) (by decide) dd_X1_putOnTop_62 ?_
  refine J_letS (fun S11 => ?_)
  exact J_vret hE dd_X1_putOnTop_63 rfl rfl
theorem dd_X1_trait_0 : jd cX1_trait 0 (.iload_n 2) 1 1 := ⟨by decide +kernel, rfl⟩
theorem dd_X1_trait_32 : jd cX1_trait 32 (.aload_n 0) 1 33 := ⟨by decide +kernel, rfl⟩
theorem dd_X1_trait_33 : jd cX1_trait 33 (.getfield 27) 3 36 := ⟨by decide +kernel, rfl⟩
theorem dd_X1_trait_36 : jd cX1_trait 36 (.iload_n 1) 1 37 := ⟨by decide +kernel, rfl⟩
theorem dd_X1_trait_37 : jd cX1_trait 37 (.iaload) 1 38 := ⟨by decide +kernel, rfl⟩
theorem dd_X1_trait_38 : jd cX1_trait 38 (.ireturn) 1 39 := ⟨by decide +kernel, rfl⟩
theorem dd_X1_trait_39 : jd cX1_trait 39 (.aload_n 0) 1 40 := ⟨by decide +kernel, rfl⟩
theorem dd_X1_trait_40 : jd cX1_trait 40 (.getfield 30) 3 43 := ⟨by decide +kernel, rfl⟩
theorem dd_X1_trait_43 : jd cX1_trait 43 (.iload_n 1) 1 44 := ⟨by decide +kernel, rfl⟩
theorem dd_X1_trait_44 : jd cX1_trait 44 (.iaload) 1 45 := ⟨by decide +kernel, rfl⟩
theorem dd_X1_trait_45 : jd cX1_trait 45 (.ireturn) 1 46 := ⟨by decide +kernel, rfl⟩
theorem dd_X1_trait_46 : jd cX1_trait 46 (.aload_n 0) 1 47 := ⟨by decide +kernel, rfl⟩
theorem dd_X1_trait_47 : jd cX1_trait 47 (.getfield 33) 3 50 := ⟨by decide +kernel, rfl⟩
theorem dd_X1_trait_50 : jd cX1_trait 50 (.iload_n 1) 1 51 := ⟨by decide +kernel, rfl⟩
theorem dd_X1_trait_51 : jd cX1_trait 51 (.iaload) 1 52 := ⟨by decide +kernel, rfl⟩
theorem dd_X1_trait_52 : jd cX1_trait 52 (.ireturn) 1 53 := ⟨by decide +kernel, rfl⟩
theorem dd_X1_trait_53 : jd cX1_trait 53 (.aload_n 0) 1 54 := ⟨by decide +kernel, rfl⟩
theorem dd_X1_trait_54 : jd cX1_trait 54 (.getfield 36) 3 57 := ⟨by decide +kernel, rfl⟩
theorem dd_X1_trait_57 : jd cX1_trait 57 (.iload_n 1) 1 58 := ⟨by decide +kernel, rfl⟩
theorem dd_X1_trait_58 : jd cX1_trait 58 (.iaload) 1 59 := ⟨by decide +kernel, rfl⟩
theorem dd_X1_trait_59 : jd cX1_trait 59 (.ireturn) 1 60 := ⟨by decide +kernel, rfl⟩
theorem dd_X1_trait_60 : jd cX1_trait 60 (.iconst (-1)) 1 61 := ⟨by decide +kernel, rfl⟩
theorem dd_X1_trait_61 : jd cX1_trait 61 (.ireturn) 1 62 := ⟨by decide +kernel, rfl⟩
theorem dd_X1_trait_1 : jd cX1_trait 1 (.tableswitch 59 0 3 #[31, 38, 45, 52]) 31 32 := ⟨by decide +kernel, rfl⟩
theorem m_X1_trait : jmV yX1_trait cX1_trait 3 (some .int) 2 := ⟨⟨(jj_m (w := Cond.code yX1_trait cX1_trait 3 (some .int)) (List.mem_of_getElem? (i := 516) (by decide +kernel)) rfl), (jj_m (w := Cond.initialized yX1_trait.cls) (List.mem_of_getElem? (i := 66) (by decide +kernel)) rfl), ⟨by decide, by decide⟩, by decide +kernel⟩, (jj_m (w := Cond.instanceMethod yX1_trait) (List.mem_of_getElem? (i := 514) (by decide +kernel)) rfl), (jj_m (w := Cond.selects yX1_trait.cls yX1_trait yX1_trait) (List.mem_of_getElem? (i := 515) (by decide +kernel)) rfl)⟩
def fX1_trait (i1 : Int32) (i2 : Int32) (S : M2) : Option (Int32) :=
  if i2 = 0 then
    bnd i1 4 <|
    some (S 8 i1.toNatClampNeg)
  else
    if i2 = 1 then
      bnd i1 4 <|
      some (S 9 i1.toNatClampNeg)
    else
      if i2 = 2 then
        bnd i1 4 <|
        some (S 10 i1.toNatClampNeg)
      else
        if i2 = 3 then
          bnd i1 4 <|
          some (S 11 i1.toNatClampNeg)
        else
          some (-1 : Int32)

set_option maxHeartbeats 4000000 in
set_option maxRecDepth 100000 in
theorem tX1_trait (l : Launch) {V : JV M2} {b : Nat} {a : Nat → Nat} (hv : vX1 V b a) (S : M2) (i1 : Int32) (i2 : Int32) : JC l V yX1_trait cX1_trait 3 (some .int) jj_i 0 [.ref b, .int i1, .int i2] S ((fX1_trait i1 i2 S).map (fun r => (r, S))) := by
  refine jj_of (by decide) (Nat.le_of_ble_eq_true rfl) (fun E hlE hE => ?_)
  unfold fX1_trait
  refine J_sub (L' := [(0, .ref b), (1, .int i1), (2, .int i2)]) [0, 1, 2] rfl ?_
  refine J_iload_n hE dd_X1_trait_0 2 rfl rfl ?_
  refine J_ite (fun c1 => ?_) (fun c1 => ?_)
  · refine J_tsAt hE c1 (off := 31) (tgt := 32) dd_X1_trait_1 (by decide) (by decide) (by decide) (by decide) ?_
    refine J_aload_n hE dd_X1_trait_32 0 rfl rfl ?_
    refine J_get hE (hv.ob _) jc_X1 8 (by decide) fl_RX1_27 (v := .ref (a 8)) rfl dd_X1_trait_33 ?_
    refine J_iload_n hE dd_X1_trait_36 1 rfl rfl ?_
    refine J_ald hE (hv.arr 8 (n := 4) (ty := .int) (by decide) _) dd_X1_trait_37 ?_
    exact J_iret hE dd_X1_trait_38 rfl rfl
  · refine J_ite (fun c2 => ?_) (fun c2 => ?_)
    · refine J_tsAt hE c2 (off := 38) (tgt := 39) dd_X1_trait_1 (by decide) (by decide) (by decide) (by decide) ?_
      refine J_aload_n hE dd_X1_trait_39 0 rfl rfl ?_
      refine J_get hE (hv.ob _) jc_X1 9 (by decide) fl_RX1_30 (v := .ref (a 9)) rfl dd_X1_trait_40 ?_
      refine J_iload_n hE dd_X1_trait_43 1 rfl rfl ?_
      refine J_ald hE (hv.arr 9 (n := 4) (ty := .int) (by decide) _) dd_X1_trait_44 ?_
      exact J_iret hE dd_X1_trait_45 rfl rfl
    · refine J_ite (fun c3 => ?_) (fun c3 => ?_)
      · refine J_tsAt hE c3 (off := 45) (tgt := 46) dd_X1_trait_1 (by decide) (by decide) (by decide) (by decide) ?_
        refine J_aload_n hE dd_X1_trait_46 0 rfl rfl ?_
        refine J_get hE (hv.ob _) jc_X1 10 (by decide) fl_RX1_33 (v := .ref (a 10)) rfl dd_X1_trait_47 ?_
        refine J_iload_n hE dd_X1_trait_50 1 rfl rfl ?_
        refine J_ald hE (hv.arr 10 (n := 4) (ty := .int) (by decide) _) dd_X1_trait_51 ?_
        exact J_iret hE dd_X1_trait_52 rfl rfl
      · refine J_ite (fun c4 => ?_) (fun c4 => ?_)
        · refine J_tsAt hE c4 (off := 52) (tgt := 53) dd_X1_trait_1 (by decide) (by decide) (by decide) (by decide) ?_
          refine J_aload_n hE dd_X1_trait_53 0 rfl rfl ?_
          refine J_get hE (hv.ob _) jc_X1 11 (by decide) fl_RX1_36 (v := .ref (a 11)) rfl dd_X1_trait_54 ?_
          refine J_iload_n hE dd_X1_trait_57 1 rfl rfl ?_
          refine J_ald hE (hv.arr 11 (n := 4) (ty := .int) (by decide) _) dd_X1_trait_58 ?_
          exact J_iret hE dd_X1_trait_59 rfl rfl
        · refine J_tsOut hE (tgt := 60) dd_X1_trait_1 (by have e0 : ¬ (i2).toInt = 0 := fun q => c1 (Int32.toInt_inj.mp (q.trans (by decide))); have e1 : ¬ (i2).toInt = 1 := fun q => c2 (Int32.toInt_inj.mp (q.trans (by decide))); have e2 : ¬ (i2).toInt = 2 := fun q => c3 (Int32.toInt_inj.mp (q.trans (by decide))); have e3 : ¬ (i2).toInt = 3 := fun q => c4 (Int32.toInt_inj.mp (q.trans (by decide))); omega) (by decide) ?_
          refine J_iconst hE (v := (-1 : Int32)) dd_X1_trait_60 (by decide) ?_
          exact J_iret hE dd_X1_trait_61 rfl rfl
theorem dd_X1_setTrait_0 : jd cX1_setTrait 0 (.iload_n 2) 1 1 := ⟨by decide +kernel, rfl⟩
theorem dd_X1_setTrait_28 : jd cX1_setTrait 28 (.aload_n 0) 1 29 := ⟨by decide +kernel, rfl⟩
theorem dd_X1_setTrait_29 : jd cX1_setTrait 29 (.getfield 27) 3 32 := ⟨by decide +kernel, rfl⟩
theorem dd_X1_setTrait_32 : jd cX1_setTrait 32 (.iload_n 1) 1 33 := ⟨by decide +kernel, rfl⟩
theorem dd_X1_setTrait_33 : jd cX1_setTrait 33 (.iload_n 3) 1 34 := ⟨by decide +kernel, rfl⟩
theorem dd_X1_setTrait_34 : jd cX1_setTrait 34 (.iastore) 1 35 := ⟨by decide +kernel, rfl⟩
theorem dd_X1_setTrait_65 : jd cX1_setTrait 65 (.return_) 1 66 := ⟨by decide +kernel, rfl⟩
theorem dd_X1_setTrait_35 : jd cX1_setTrait 35 (.goto 30) 3 38 := ⟨by decide +kernel, rfl⟩
theorem dd_X1_setTrait_38 : jd cX1_setTrait 38 (.aload_n 0) 1 39 := ⟨by decide +kernel, rfl⟩
theorem dd_X1_setTrait_39 : jd cX1_setTrait 39 (.getfield 30) 3 42 := ⟨by decide +kernel, rfl⟩
theorem dd_X1_setTrait_42 : jd cX1_setTrait 42 (.iload_n 1) 1 43 := ⟨by decide +kernel, rfl⟩
theorem dd_X1_setTrait_43 : jd cX1_setTrait 43 (.iload_n 3) 1 44 := ⟨by decide +kernel, rfl⟩
theorem dd_X1_setTrait_44 : jd cX1_setTrait 44 (.iastore) 1 45 := ⟨by decide +kernel, rfl⟩
theorem dd_X1_setTrait_45 : jd cX1_setTrait 45 (.goto 20) 3 48 := ⟨by decide +kernel, rfl⟩
theorem dd_X1_setTrait_48 : jd cX1_setTrait 48 (.aload_n 0) 1 49 := ⟨by decide +kernel, rfl⟩
theorem dd_X1_setTrait_49 : jd cX1_setTrait 49 (.getfield 33) 3 52 := ⟨by decide +kernel, rfl⟩
theorem dd_X1_setTrait_52 : jd cX1_setTrait 52 (.iload_n 1) 1 53 := ⟨by decide +kernel, rfl⟩
theorem dd_X1_setTrait_53 : jd cX1_setTrait 53 (.iload_n 3) 1 54 := ⟨by decide +kernel, rfl⟩
theorem dd_X1_setTrait_54 : jd cX1_setTrait 54 (.iastore) 1 55 := ⟨by decide +kernel, rfl⟩
theorem dd_X1_setTrait_55 : jd cX1_setTrait 55 (.goto 10) 3 58 := ⟨by decide +kernel, rfl⟩
theorem dd_X1_setTrait_58 : jd cX1_setTrait 58 (.aload_n 0) 1 59 := ⟨by decide +kernel, rfl⟩
theorem dd_X1_setTrait_59 : jd cX1_setTrait 59 (.getfield 36) 3 62 := ⟨by decide +kernel, rfl⟩
theorem dd_X1_setTrait_62 : jd cX1_setTrait 62 (.iload_n 1) 1 63 := ⟨by decide +kernel, rfl⟩
theorem dd_X1_setTrait_63 : jd cX1_setTrait 63 (.iload_n 3) 1 64 := ⟨by decide +kernel, rfl⟩
theorem dd_X1_setTrait_64 : jd cX1_setTrait 64 (.iastore) 1 65 := ⟨by decide +kernel, rfl⟩
theorem dd_X1_setTrait_1 : jd cX1_setTrait 1 (.tableswitch 57 0 2 #[27, 37, 47]) 27 28 := ⟨by decide +kernel, rfl⟩
theorem m_X1_setTrait : jmV yX1_setTrait cX1_setTrait 4 none 3 := ⟨⟨(jj_m (w := Cond.code yX1_setTrait cX1_setTrait 4 none) (List.mem_of_getElem? (i := 574) (by decide +kernel)) rfl), (jj_m (w := Cond.initialized yX1_setTrait.cls) (List.mem_of_getElem? (i := 66) (by decide +kernel)) rfl), ⟨by decide, by decide⟩, by decide +kernel⟩, (jj_m (w := Cond.instanceMethod yX1_setTrait) (List.mem_of_getElem? (i := 572) (by decide +kernel)) rfl), (jj_m (w := Cond.selects yX1_setTrait.cls yX1_setTrait yX1_setTrait) (List.mem_of_getElem? (i := 573) (by decide +kernel)) rfl)⟩
def fX1_setTrait (i1 : Int32) (i2 : Int32) (i3 : Int32) (S : M2) : Option (M2) :=
  if i2 = 0 then
    bnd i1 4 <|
    lt (va_up S 8 (upd (S 8) i1.toNatClampNeg i3)) fun S2 =>
    some S2
  else
    if i2 = 1 then
      bnd i1 4 <|
      lt (va_up S 9 (upd (S 9) i1.toNatClampNeg i3)) fun S4 =>
      some S4
    else
      if i2 = 2 then
        bnd i1 4 <|
        lt (va_up S 10 (upd (S 10) i1.toNatClampNeg i3)) fun S6 =>
        some S6
      else
        bnd i1 4 <|
        lt (va_up S 11 (upd (S 11) i1.toNatClampNeg i3)) fun S7 =>
        some S7

set_option maxHeartbeats 4000000 in
set_option maxRecDepth 100000 in
theorem tX1_setTrait (l : Launch) {V : JV M2} {b : Nat} {a : Nat → Nat} (hv : vX1 V b a) (S : M2) (i1 : Int32) (i2 : Int32) (i3 : Int32) : JC l V yX1_setTrait cX1_setTrait 4 none jj_v 0 [.ref b, .int i1, .int i2, .int i3] S ((fX1_setTrait i1 i2 i3 S).map (fun q => ((), q))) := by
  refine jj_of (by decide) (Nat.le_of_ble_eq_true rfl) (fun E hlE hE => ?_)
  unfold fX1_setTrait
  refine J_sub (L' := [(0, .ref b), (1, .int i1), (2, .int i2), (3, .int i3)]) [0, 1, 2, 3] rfl ?_
  refine J_iload_n hE dd_X1_setTrait_0 2 rfl rfl ?_
  refine J_ite (fun c1 => ?_) (fun c1 => ?_)
  · refine J_tsAt hE c1 (off := 27) (tgt := 28) dd_X1_setTrait_1 (by decide) (by decide) (by decide) (by decide) ?_
    refine J_aload_n hE dd_X1_setTrait_28 0 rfl rfl ?_
    refine J_get hE (hv.ob _) jc_X1 8 (by decide) fl_RX1_27 (v := .ref (a 8)) rfl dd_X1_setTrait_29 ?_
    refine J_iload_n hE dd_X1_setTrait_32 1 rfl rfl ?_
    refine J_iload_n hE dd_X1_setTrait_33 3 rfl rfl ?_
    refine J_ast hE hv 8 (N := 4) (by decide) dd_X1_setTrait_34 ?_
    refine J_letS (fun S2 => ?_)
    refine J_goto hE (tgt := 65) dd_X1_setTrait_35 (by decide) ?_
    exact J_vret hE dd_X1_setTrait_65 rfl rfl
  · refine J_ite (fun c3 => ?_) (fun c3 => ?_)
    · refine J_tsAt hE c3 (off := 37) (tgt := 38) dd_X1_setTrait_1 (by decide) (by decide) (by decide) (by decide) ?_
      refine J_aload_n hE dd_X1_setTrait_38 0 rfl rfl ?_
      refine J_get hE (hv.ob _) jc_X1 9 (by decide) fl_RX1_30 (v := .ref (a 9)) rfl dd_X1_setTrait_39 ?_
      refine J_iload_n hE dd_X1_setTrait_42 1 rfl rfl ?_
      refine J_iload_n hE dd_X1_setTrait_43 3 rfl rfl ?_
      refine J_ast hE hv 9 (N := 4) (by decide) dd_X1_setTrait_44 ?_
      refine J_letS (fun S4 => ?_)
      refine J_goto hE (tgt := 65) dd_X1_setTrait_45 (by decide) ?_
      exact J_vret hE dd_X1_setTrait_65 rfl rfl
    · refine J_ite (fun c5 => ?_) (fun c5 => ?_)
      · refine J_tsAt hE c5 (off := 47) (tgt := 48) dd_X1_setTrait_1 (by decide) (by decide) (by decide) (by decide) ?_
        refine J_aload_n hE dd_X1_setTrait_48 0 rfl rfl ?_
        refine J_get hE (hv.ob _) jc_X1 10 (by decide) fl_RX1_33 (v := .ref (a 10)) rfl dd_X1_setTrait_49 ?_
        refine J_iload_n hE dd_X1_setTrait_52 1 rfl rfl ?_
        refine J_iload_n hE dd_X1_setTrait_53 3 rfl rfl ?_
        refine J_ast hE hv 10 (N := 4) (by decide) dd_X1_setTrait_54 ?_
        refine J_letS (fun S6 => ?_)
        refine J_goto hE (tgt := 65) dd_X1_setTrait_55 (by decide) ?_
        exact J_vret hE dd_X1_setTrait_65 rfl rfl
      · refine J_tsOut hE (tgt := 58) dd_X1_setTrait_1 (by have e0 : ¬ (i2).toInt = 0 := fun q => c1 (Int32.toInt_inj.mp (q.trans (by decide))); have e1 : ¬ (i2).toInt = 1 := fun q => c3 (Int32.toInt_inj.mp (q.trans (by decide))); have e2 : ¬ (i2).toInt = 2 := fun q => c5 (Int32.toInt_inj.mp (q.trans (by decide))); omega) (by decide) ?_
        refine J_aload_n hE dd_X1_setTrait_58 0 rfl rfl ?_
        refine J_get hE (hv.ob _) jc_X1 11 (by decide) fl_RX1_36 (v := .ref (a 11)) rfl dd_X1_setTrait_59 ?_
        refine J_iload_n hE dd_X1_setTrait_62 1 rfl rfl ?_
        refine J_iload_n hE dd_X1_setTrait_63 3 rfl rfl ?_
        refine J_ast hE hv 11 (N := 4) (by decide) dd_X1_setTrait_64 ?_
        refine J_letS (fun S7 => ?_)
        exact J_vret hE dd_X1_setTrait_65 rfl rfl
theorem dd_X1_appetite_0 : jd cX1_appetite 0 (.aload_n 0) 1 1 := ⟨by decide +kernel, rfl⟩
theorem dd_X1_appetite_1 : jd cX1_appetite 1 (.getfield 33) 3 4 := ⟨by decide +kernel, rfl⟩
theorem dd_X1_appetite_4 : jd cX1_appetite 4 (.iload_n 1) 1 5 := ⟨by decide +kernel, rfl⟩
theorem dd_X1_appetite_5 : jd cX1_appetite 5 (.iaload) 1 6 := ⟨by decide +kernel, rfl⟩
theorem dd_X1_appetite_6 : jd cX1_appetite 6 (.aload_n 0) 1 7 := ⟨by decide +kernel, rfl⟩
theorem dd_X1_appetite_7 : jd cX1_appetite 7 (.getfield 58) 3 10 := ⟨by decide +kernel, rfl⟩
theorem dd_X1_appetite_10 : jd cX1_appetite 10 (.iadd) 1 11 := ⟨by decide +kernel, rfl⟩
theorem dd_X1_appetite_11 : jd cX1_appetite 11 (.istore_n 2) 1 12 := ⟨by decide +kernel, rfl⟩
theorem dd_X1_appetite_12 : jd cX1_appetite 12 (.aload_n 0) 1 13 := ⟨by decide +kernel, rfl⟩
theorem dd_X1_appetite_13 : jd cX1_appetite 13 (.getfield 27) 3 16 := ⟨by decide +kernel, rfl⟩
theorem dd_X1_appetite_16 : jd cX1_appetite 16 (.iload_n 1) 1 17 := ⟨by decide +kernel, rfl⟩
theorem dd_X1_appetite_17 : jd cX1_appetite 17 (.iaload) 1 18 := ⟨by decide +kernel, rfl⟩
theorem dd_X1_appetite_44 : jd cX1_appetite 44 (.iconst 0) 1 45 := ⟨by decide +kernel, rfl⟩
theorem dd_X1_appetite_45 : jd cX1_appetite 45 (.iload_n 2) 1 46 := ⟨by decide +kernel, rfl⟩
theorem dd_X1_appetite_46 : jd cX1_appetite 46 (.iconst 1) 1 47 := ⟨by decide +kernel, rfl⟩
theorem dd_X1_appetite_47 : jd cX1_appetite 47 (.isub) 1 48 := ⟨by decide +kernel, rfl⟩
theorem ml_RX1_96 : (Cond.methodLink "MothCustoms$Shed" 96 Lib.Math.max.name : Cond) ∈ jj_tb := jj_m (List.mem_of_getElem? (i := 502) (by decide +kernel)) rfl
theorem dd_X1_appetite_48 : jd cX1_appetite 48 (.invokestatic 96) 3 51 := ⟨by decide +kernel, rfl⟩
theorem dd_X1_appetite_51 : jd cX1_appetite 51 (.ireturn) 1 52 := ⟨by decide +kernel, rfl⟩
theorem dd_X1_appetite_52 : jd cX1_appetite 52 (.iconst 2) 1 53 := ⟨by decide +kernel, rfl⟩
theorem dd_X1_appetite_53 : jd cX1_appetite 53 (.iload_n 2) 1 54 := ⟨by decide +kernel, rfl⟩
theorem dd_X1_appetite_54 : jd cX1_appetite 54 (.imul) 1 55 := ⟨by decide +kernel, rfl⟩
theorem dd_X1_appetite_55 : jd cX1_appetite 55 (.ireturn) 1 56 := ⟨by decide +kernel, rfl⟩
theorem dd_X1_appetite_56 : jd cX1_appetite 56 (.iload_n 2) 1 57 := ⟨by decide +kernel, rfl⟩
theorem dd_X1_appetite_57 : jd cX1_appetite 57 (.iconst 2) 1 58 := ⟨by decide +kernel, rfl⟩
theorem dd_X1_appetite_58 : jd cX1_appetite 58 (.idiv) 1 59 := ⟨by decide +kernel, rfl⟩
theorem dd_X1_appetite_59 : jd cX1_appetite 59 (.ireturn) 1 60 := ⟨by decide +kernel, rfl⟩
theorem dd_X1_appetite_60 : jd cX1_appetite 60 (.iload_n 2) 1 61 := ⟨by decide +kernel, rfl⟩
theorem dd_X1_appetite_61 : jd cX1_appetite 61 (.ireturn) 1 62 := ⟨by decide +kernel, rfl⟩
theorem dd_X1_appetite_18 : jd cX1_appetite 18 (.tableswitch 42 1 3 #[26, 34, 38]) 26 44 := ⟨by decide +kernel, rfl⟩
theorem m_X1_appetite : jmV yX1_appetite cX1_appetite 3 (some .int) 1 := ⟨⟨(jj_m (w := Cond.code yX1_appetite cX1_appetite 3 (some .int)) (List.mem_of_getElem? (i := 501) (by decide +kernel)) rfl), (jj_m (w := Cond.initialized yX1_appetite.cls) (List.mem_of_getElem? (i := 66) (by decide +kernel)) rfl), ⟨by decide, by decide⟩, by decide +kernel⟩, (jj_m (w := Cond.instanceMethod yX1_appetite) (List.mem_of_getElem? (i := 499) (by decide +kernel)) rfl), (jj_m (w := Cond.selects yX1_appetite.cls yX1_appetite yX1_appetite) (List.mem_of_getElem? (i := 500) (by decide +kernel)) rfl)⟩
def fX1_appetite (i1 : Int32) (S : M2) : Option (Int32) :=
  bnd i1 4 <|
  lt (((S 10 i1.toNatClampNeg) + (S 12 0))) fun x1 =>
  bnd i1 4 <|
  if (S 8 i1.toNatClampNeg) = 1 then
    some (if (0 : Int32) < (x1 - (1 : Int32)) then (x1 - (1 : Int32)) else (0 : Int32))
  else
    if (S 8 i1.toNatClampNeg) = 2 then
      some ((2 : Int32) * x1)
    else
      if (S 8 i1.toNatClampNeg) = 3 then
        if (2 : Int32) = 0 then none else
        some (x1 / (2 : Int32))
      else
        some x1

set_option maxHeartbeats 4000000 in
set_option maxRecDepth 100000 in
theorem tX1_appetite (l : Launch) {V : JV M2} {b : Nat} {a : Nat → Nat} (hv : vX1 V b a) (S : M2) (i1 : Int32) : JC l V yX1_appetite cX1_appetite 3 (some .int) jj_i 1 [.ref b, .int i1] S ((fX1_appetite i1 S).map (fun r => (r, S))) := by
  refine jj_of (by decide) (Nat.le_of_ble_eq_true rfl) (fun E hlE hE => ?_)
  unfold fX1_appetite
  refine J_sub (L' := [(0, .ref b), (1, .int i1)]) [0, 1] rfl ?_
  refine J_aload_n hE dd_X1_appetite_0 0 rfl rfl ?_
  refine J_get hE (hv.ob _) jc_X1 10 (by decide) fl_RX1_33 (v := .ref (a 10)) rfl dd_X1_appetite_1 ?_
  refine J_iload_n hE dd_X1_appetite_4 1 rfl rfl ?_
  refine J_ald hE (hv.arr 10 (n := 4) (ty := .int) (by decide) _) dd_X1_appetite_5 ?_
  refine J_aload_n hE dd_X1_appetite_6 0 rfl rfl ?_
  refine J_get hE (hv.ob _) jc_X1 12 (by decide) fl_RX1_58 (v := .int (S 12 0)) rfl dd_X1_appetite_7 ?_
  refine J_iadd hE dd_X1_appetite_10 ?_
  refine J_leti (fun x1 => ?_)
  refine J_istore_n hE (L' := [(2, .int x1), (0, .ref b), (1, .int i1)]) dd_X1_appetite_11 (Nat.le_of_ble_eq_true rfl) rfl rfl ?_
  refine J_aload_n hE dd_X1_appetite_12 1 rfl rfl ?_
  refine J_get hE (hv.ob _) jc_X1 8 (by decide) fl_RX1_27 (v := .ref (a 8)) rfl dd_X1_appetite_13 ?_
  refine J_iload_n hE dd_X1_appetite_16 2 rfl rfl ?_
  refine J_ald hE (hv.arr 8 (n := 4) (ty := .int) (by decide) _) dd_X1_appetite_17 ?_
  refine J_ite (fun c2 => ?_) (fun c2 => ?_)
  · refine J_tsAt hE c2 (off := 26) (tgt := 44) dd_X1_appetite_18 (by decide) (by decide) (by decide) (by decide) ?_
    refine J_iconst hE (v := (0 : Int32)) dd_X1_appetite_44 (by decide) ?_
    refine J_iload_n hE dd_X1_appetite_45 0 rfl rfl ?_
    refine J_iconst hE (v := (1 : Int32)) dd_X1_appetite_46 (by decide) ?_
    refine J_isub hE dd_X1_appetite_47 ?_
    refine J_max hE ml_RX1_96 (Nat.le_of_ble_eq_true rfl) (Nat.le_of_ble_eq_true rfl) dd_X1_appetite_48 ?_
    exact J_iret hE dd_X1_appetite_51 rfl rfl
  · refine J_ite (fun c3 => ?_) (fun c3 => ?_)
    · refine J_tsAt hE c3 (off := 34) (tgt := 52) dd_X1_appetite_18 (by decide) (by decide) (by decide) (by decide) ?_
      refine J_iconst hE (v := (2 : Int32)) dd_X1_appetite_52 (by decide) ?_
      refine J_iload_n hE dd_X1_appetite_53 0 rfl rfl ?_
      refine J_imul hE dd_X1_appetite_54 ?_
      exact J_iret hE dd_X1_appetite_55 rfl rfl
    · refine J_ite (fun c4 => ?_) (fun c4 => ?_)
      · refine J_tsAt hE c4 (off := 38) (tgt := 56) dd_X1_appetite_18 (by decide) (by decide) (by decide) (by decide) ?_
        refine J_iload_n hE dd_X1_appetite_56 0 rfl rfl ?_
        refine J_iconst hE (v := (2 : Int32)) dd_X1_appetite_57 (by decide) ?_
        refine J_idiv hE dd_X1_appetite_58 (fun _ => ?_)
        exact J_iret hE dd_X1_appetite_59 rfl rfl
      · refine J_tsOut hE (tgt := 60) dd_X1_appetite_18 (by have e0 : ¬ ((S 8 i1.toNatClampNeg)).toInt = 1 := fun q => c2 (Int32.toInt_inj.mp (q.trans (by decide))); have e1 : ¬ ((S 8 i1.toNatClampNeg)).toInt = 2 := fun q => c3 (Int32.toInt_inj.mp (q.trans (by decide))); have e2 : ¬ ((S 8 i1.toNatClampNeg)).toInt = 3 := fun q => c4 (Int32.toInt_inj.mp (q.trans (by decide))); omega) (by decide) ?_
        refine J_iload_n hE dd_X1_appetite_60 0 rfl rfl ?_
        exact J_iret hE dd_X1_appetite_61 rfl rfl
theorem dd_X1_likes_0 : jd cX1_likes 0 (.aload_n 0) 1 1 := ⟨by decide +kernel, rfl⟩
theorem dd_X1_likes_1 : jd cX1_likes 1 (.getfield 27) 3 4 := ⟨by decide +kernel, rfl⟩
theorem dd_X1_likes_4 : jd cX1_likes 4 (.iload_n 1) 1 5 := ⟨by decide +kernel, rfl⟩
theorem dd_X1_likes_5 : jd cX1_likes 5 (.iaload) 1 6 := ⟨by decide +kernel, rfl⟩
theorem dd_X1_likes_32 : jd cX1_likes 32 (.aload_n 0) 1 33 := ⟨by decide +kernel, rfl⟩
theorem dd_X1_likes_33 : jd cX1_likes 33 (.getfield 9) 3 36 := ⟨by decide +kernel, rfl⟩
theorem dd_X1_likes_36 : jd cX1_likes 36 (.iload_n 2) 1 37 := ⟨by decide +kernel, rfl⟩
theorem dd_X1_likes_37 : jd cX1_likes 37 (.iaload) 1 38 := ⟨by decide +kernel, rfl⟩
theorem dd_X1_likes_38 : jd cX1_likes 38 (.aload_n 0) 1 39 := ⟨by decide +kernel, rfl⟩
theorem dd_X1_likes_39 : jd cX1_likes 39 (.getfield 30) 3 42 := ⟨by decide +kernel, rfl⟩
theorem dd_X1_likes_42 : jd cX1_likes 42 (.iload_n 1) 1 43 := ⟨by decide +kernel, rfl⟩
theorem dd_X1_likes_43 : jd cX1_likes 43 (.iaload) 1 44 := ⟨by decide +kernel, rfl⟩
theorem dd_X1_likes_51 : jd cX1_likes 51 (.iconst 0) 1 52 := ⟨by decide +kernel, rfl⟩
theorem dd_X1_likes_52 : jd cX1_likes 52 (.ireturn) 1 53 := ⟨by decide +kernel, rfl⟩
theorem dd_X1_likes_47 : jd cX1_likes 47 (.iconst 1) 1 48 := ⟨by decide +kernel, rfl⟩
theorem dd_X1_likes_48 : jd cX1_likes 48 (.goto 4) 3 51 := ⟨by decide +kernel, rfl⟩
theorem dd_X1_likes_44 : jd cX1_likes 44 (.if_icmp .ne 7) 3 47 := ⟨by decide +kernel, rfl⟩
theorem dd_X1_likes_53 : jd cX1_likes 53 (.iconst 1) 1 54 := ⟨by decide +kernel, rfl⟩
theorem dd_X1_likes_54 : jd cX1_likes 54 (.ireturn) 1 55 := ⟨by decide +kernel, rfl⟩
theorem dd_X1_likes_55 : jd cX1_likes 55 (.aload_n 0) 1 56 := ⟨by decide +kernel, rfl⟩
theorem dd_X1_likes_56 : jd cX1_likes 56 (.getfield 9) 3 59 := ⟨by decide +kernel, rfl⟩
theorem dd_X1_likes_59 : jd cX1_likes 59 (.iload_n 2) 1 60 := ⟨by decide +kernel, rfl⟩
theorem dd_X1_likes_60 : jd cX1_likes 60 (.iaload) 1 61 := ⟨by decide +kernel, rfl⟩
theorem dd_X1_likes_61 : jd cX1_likes 61 (.aload_n 0) 1 62 := ⟨by decide +kernel, rfl⟩
theorem dd_X1_likes_62 : jd cX1_likes 62 (.getfield 30) 3 65 := ⟨by decide +kernel, rfl⟩
theorem dd_X1_likes_65 : jd cX1_likes 65 (.iload_n 1) 1 66 := ⟨by decide +kernel, rfl⟩
theorem dd_X1_likes_66 : jd cX1_likes 66 (.iaload) 1 67 := ⟨by decide +kernel, rfl⟩
theorem dd_X1_likes_67 : jd cX1_likes 67 (.isub) 1 68 := ⟨by decide +kernel, rfl⟩
theorem dd_X1_likes_68 : jd cX1_likes 68 (.iconst 1) 1 69 := ⟨by decide +kernel, rfl⟩
theorem dd_X1_likes_93 : jd cX1_likes 93 (.iconst 0) 1 94 := ⟨by decide +kernel, rfl⟩
theorem dd_X1_likes_94 : jd cX1_likes 94 (.ireturn) 1 95 := ⟨by decide +kernel, rfl⟩
theorem dd_X1_likes_72 : jd cX1_likes 72 (.aload_n 0) 1 73 := ⟨by decide +kernel, rfl⟩
theorem dd_X1_likes_73 : jd cX1_likes 73 (.getfield 30) 3 76 := ⟨by decide +kernel, rfl⟩
theorem dd_X1_likes_76 : jd cX1_likes 76 (.iload_n 1) 1 77 := ⟨by decide +kernel, rfl⟩
theorem dd_X1_likes_77 : jd cX1_likes 77 (.iaload) 1 78 := ⟨by decide +kernel, rfl⟩
theorem dd_X1_likes_78 : jd cX1_likes 78 (.aload_n 0) 1 79 := ⟨by decide +kernel, rfl⟩
theorem dd_X1_likes_79 : jd cX1_likes 79 (.getfield 9) 3 82 := ⟨by decide +kernel, rfl⟩
theorem dd_X1_likes_82 : jd cX1_likes 82 (.iload_n 2) 1 83 := ⟨by decide +kernel, rfl⟩
theorem dd_X1_likes_83 : jd cX1_likes 83 (.iaload) 1 84 := ⟨by decide +kernel, rfl⟩
theorem dd_X1_likes_84 : jd cX1_likes 84 (.isub) 1 85 := ⟨by decide +kernel, rfl⟩
theorem dd_X1_likes_85 : jd cX1_likes 85 (.iconst 1) 1 86 := ⟨by decide +kernel, rfl⟩
theorem dd_X1_likes_89 : jd cX1_likes 89 (.iconst 1) 1 90 := ⟨by decide +kernel, rfl⟩
theorem dd_X1_likes_90 : jd cX1_likes 90 (.goto 4) 3 93 := ⟨by decide +kernel, rfl⟩
theorem dd_X1_likes_86 : jd cX1_likes 86 (.if_icmp .gt 7) 3 89 := ⟨by decide +kernel, rfl⟩
theorem dd_X1_likes_69 : jd cX1_likes 69 (.if_icmp .gt 24) 3 72 := ⟨by decide +kernel, rfl⟩
theorem dd_X1_likes_6 : jd cX1_likes 6 (.lookupswitch 49 #[(1, 26), (2, 47)]) 26 32 := ⟨by decide +kernel, rfl⟩
theorem m_X1_likes : jmV yX1_likes cX1_likes 3 (some .boolean) 2 := ⟨⟨(jj_m (w := Cond.code yX1_likes cX1_likes 3 (some .boolean)) (List.mem_of_getElem? (i := 512) (by decide +kernel)) rfl), (jj_m (w := Cond.initialized yX1_likes.cls) (List.mem_of_getElem? (i := 66) (by decide +kernel)) rfl), ⟨by decide, by decide⟩, by decide +kernel⟩, (jj_m (w := Cond.instanceMethod yX1_likes) (List.mem_of_getElem? (i := 510) (by decide +kernel)) rfl), (jj_m (w := Cond.selects yX1_likes.cls yX1_likes yX1_likes) (List.mem_of_getElem? (i := 511) (by decide +kernel)) rfl)⟩
def fX1_likes (i1 : Int32) (i2 : Int32) (S : M2) : Option (Int32) :=
  bnd i1 4 <|
  if (S 8 i1.toNatClampNeg) = 1 then
    bnd i2 5 <|
    bnd i1 4 <|
    if (S 1 i2.toNatClampNeg) = (S 9 i1.toNatClampNeg) then
      some (1 : Int32)
    else
      some (0 : Int32)
  else
    if (S 8 i1.toNatClampNeg) = 2 then
      some (1 : Int32)
    else
      bnd i2 5 <|
      bnd i1 4 <|
      if (1 : Int32) < ((S 1 i2.toNatClampNeg) - (S 9 i1.toNatClampNeg)) then
        some (0 : Int32)
      else
        bnd i1 4 <|
        bnd i2 5 <|
        if (1 : Int32) < ((S 9 i1.toNatClampNeg) - (S 1 i2.toNatClampNeg)) then
          some (0 : Int32)
        else
          some (1 : Int32)

set_option maxHeartbeats 4000000 in
set_option maxRecDepth 100000 in
theorem tX1_likes (l : Launch) {V : JV M2} {b : Nat} {a : Nat → Nat} (hv : vX1 V b a) (S : M2) (i1 : Int32) (i2 : Int32) : JC l V yX1_likes cX1_likes 3 (some .boolean) jj_i 0 [.ref b, .int i1, .int i2] S ((fX1_likes i1 i2 S).map (fun r => (r, S))) := by
  refine jj_of (by decide) (Nat.le_of_ble_eq_true rfl) (fun E hlE hE => ?_)
  unfold fX1_likes
  refine J_sub (L' := [(0, .ref b), (1, .int i1), (2, .int i2)]) [0, 1, 2] rfl ?_
  refine J_aload_n hE dd_X1_likes_0 0 rfl rfl ?_
  refine J_get hE (hv.ob _) jc_X1 8 (by decide) fl_RX1_27 (v := .ref (a 8)) rfl dd_X1_likes_1 ?_
  refine J_iload_n hE dd_X1_likes_4 1 rfl rfl ?_
  refine J_ald hE (hv.arr 8 (n := 4) (ty := .int) (by decide) _) dd_X1_likes_5 ?_
  refine J_ite (fun c1 => ?_) (fun c1 => ?_)
  · refine J_lsAt hE c1 (off := 26) (tgt := 32) dd_X1_likes_6 (by decide) (by decide) (by decide) ?_
    refine J_aload_n hE dd_X1_likes_32 0 rfl rfl ?_
    refine J_get hE (hv.ob _) jc_X1 1 (by decide) fl_RX1_9 (v := .ref (a 1)) rfl dd_X1_likes_33 ?_
    refine J_iload_n hE dd_X1_likes_36 2 rfl rfl ?_
    refine J_ald hE (hv.arr 1 (n := 5) (ty := .int) (by decide) _) dd_X1_likes_37 ?_
    refine J_aload_n hE dd_X1_likes_38 0 rfl rfl ?_
    refine J_get hE (hv.ob _) jc_X1 9 (by decide) fl_RX1_30 (v := .ref (a 9)) rfl dd_X1_likes_39 ?_
    refine J_iload_n hE dd_X1_likes_42 1 rfl rfl ?_
    refine J_ald hE (hv.arr 9 (n := 4) (ty := .int) (by decide) _) dd_X1_likes_43 ?_
    refine J_icmp_ne hE (tgt := 51) dd_X1_likes_44 (by decide) (fun c2 => ?_) (fun c2 => ?_)
    · refine J_iconst hE (v := (0 : Int32)) dd_X1_likes_51 (by decide) ?_
      exact J_zret hE (Or.inl rfl) dd_X1_likes_52 rfl rfl
    · refine J_iconst hE (v := (1 : Int32)) dd_X1_likes_47 (by decide) ?_
      refine J_goto hE (tgt := 52) dd_X1_likes_48 (by decide) ?_
      exact J_zret hE (Or.inr rfl) dd_X1_likes_52 rfl rfl
  · refine J_ite (fun c3 => ?_) (fun c3 => ?_)
    · refine J_lsAt hE c3 (off := 47) (tgt := 53) dd_X1_likes_6 (by decide) (by decide) (by decide) ?_
      refine J_iconst hE (v := (1 : Int32)) dd_X1_likes_53 (by decide) ?_
      exact J_zret hE (Or.inr rfl) dd_X1_likes_54 rfl rfl
    · refine J_lsw hE (off := 49) (tgt := 55) dd_X1_likes_6 (by decide) (by show Op.lookupswitch.offset [(1, 26), (2, 47)] 49 _ = 49; rw [Op.lookupswitch.offset_cons, if_neg (fun q => c1 (Int32.toInt_inj.mp (q.symm.trans (by decide)))), Op.lookupswitch.offset_cons, if_neg (fun q => c3 (Int32.toInt_inj.mp (q.symm.trans (by decide)))), Op.lookupswitch.offset_nil]) (by decide) ?_
      refine J_aload_n hE dd_X1_likes_55 0 rfl rfl ?_
      refine J_get hE (hv.ob _) jc_X1 1 (by decide) fl_RX1_9 (v := .ref (a 1)) rfl dd_X1_likes_56 ?_
      refine J_iload_n hE dd_X1_likes_59 2 rfl rfl ?_
      refine J_ald hE (hv.arr 1 (n := 5) (ty := .int) (by decide) _) dd_X1_likes_60 ?_
      refine J_aload_n hE dd_X1_likes_61 0 rfl rfl ?_
      refine J_get hE (hv.ob _) jc_X1 9 (by decide) fl_RX1_30 (v := .ref (a 9)) rfl dd_X1_likes_62 ?_
      refine J_iload_n hE dd_X1_likes_65 1 rfl rfl ?_
      refine J_ald hE (hv.arr 9 (n := 4) (ty := .int) (by decide) _) dd_X1_likes_66 ?_
      refine J_isub hE dd_X1_likes_67 ?_
      refine J_iconst hE (v := (1 : Int32)) dd_X1_likes_68 (by decide) ?_
      refine J_icmp_gt hE (tgt := 93) dd_X1_likes_69 (by decide) (fun c5 => ?_) (fun c5 => ?_)
      · refine J_iconst hE (v := (0 : Int32)) dd_X1_likes_93 (by decide) ?_
        exact J_zret hE (Or.inl rfl) dd_X1_likes_94 rfl rfl
      · refine J_aload_n hE dd_X1_likes_72 0 rfl rfl ?_
        refine J_get hE (hv.ob _) jc_X1 9 (by decide) fl_RX1_30 (v := .ref (a 9)) rfl dd_X1_likes_73 ?_
        refine J_iload_n hE dd_X1_likes_76 1 rfl rfl ?_
        refine J_ald hE (hv.arr 9 (n := 4) (ty := .int) (by decide) _) dd_X1_likes_77 ?_
        refine J_aload_n hE dd_X1_likes_78 0 rfl rfl ?_
        refine J_get hE (hv.ob _) jc_X1 1 (by decide) fl_RX1_9 (v := .ref (a 1)) rfl dd_X1_likes_79 ?_
        refine J_iload_n hE dd_X1_likes_82 2 rfl rfl ?_
        refine J_ald hE (hv.arr 1 (n := 5) (ty := .int) (by decide) _) dd_X1_likes_83 ?_
        refine J_isub hE dd_X1_likes_84 ?_
        refine J_iconst hE (v := (1 : Int32)) dd_X1_likes_85 (by decide) ?_
        refine J_icmp_gt hE (tgt := 93) dd_X1_likes_86 (by decide) (fun c4 => ?_) (fun c4 => ?_)
        · refine J_iconst hE (v := (0 : Int32)) dd_X1_likes_93 (by decide) ?_
          exact J_zret hE (Or.inl rfl) dd_X1_likes_94 rfl rfl
        · refine J_iconst hE (v := (1 : Int32)) dd_X1_likes_89 (by decide) ?_
          refine J_goto hE (tgt := 94) dd_X1_likes_90 (by decide) ?_
          exact J_zret hE (Or.inr rfl) dd_X1_likes_94 rfl rfl
theorem dd_X1_liked_0 : jd cX1_liked 0 (.iconst 0) 1 1 := ⟨by decide +kernel, rfl⟩
theorem dd_X1_liked_1 : jd cX1_liked 1 (.istore_n 2) 1 2 := ⟨by decide +kernel, rfl⟩
theorem dd_X1_liked_2 : jd cX1_liked 2 (.iconst 0) 1 3 := ⟨by decide +kernel, rfl⟩
theorem dd_X1_liked_3 : jd cX1_liked 3 (.istore_n 3) 1 4 := ⟨by decide +kernel, rfl⟩
theorem dd_X1_liked_4 : jd cX1_liked 4 (.iload_n 3) 1 5 := ⟨by decide +kernel, rfl⟩
theorem dd_X1_liked_5 : jd cX1_liked 5 (.aload_n 0) 1 6 := ⟨by decide +kernel, rfl⟩
theorem dd_X1_liked_6 : jd cX1_liked 6 (.getfield 49) 3 9 := ⟨by decide +kernel, rfl⟩
theorem dd_X1_liked_12 : jd cX1_liked 12 (.aload_n 0) 1 13 := ⟨by decide +kernel, rfl⟩
theorem dd_X1_liked_13 : jd cX1_liked 13 (.iload_n 1) 1 14 := ⟨by decide +kernel, rfl⟩
theorem dd_X1_liked_14 : jd cX1_liked 14 (.iload_n 3) 1 15 := ⟨by decide +kernel, rfl⟩
theorem ml_RX1_102 : (Cond.methodLink "MothCustoms$Shed" 102 yX1_likes : Cond) ∈ jj_tb := jj_m (List.mem_of_getElem? (i := 509) (by decide +kernel)) rfl
theorem dd_X1_liked_15 : jd cX1_liked 15 (.invokevirtual 102) 3 18 := ⟨by decide +kernel, rfl⟩
theorem dd_X1_liked_21 : jd cX1_liked 21 (.iload_n 2) 1 22 := ⟨by decide +kernel, rfl⟩
theorem dd_X1_liked_22 : jd cX1_liked 22 (.iconst 1) 1 23 := ⟨by decide +kernel, rfl⟩
theorem dd_X1_liked_23 : jd cX1_liked 23 (.iload_n 3) 1 24 := ⟨by decide +kernel, rfl⟩
theorem dd_X1_liked_24 : jd cX1_liked 24 (.ishl) 1 25 := ⟨by decide +kernel, rfl⟩
theorem dd_X1_liked_25 : jd cX1_liked 25 (.ior) 1 26 := ⟨by decide +kernel, rfl⟩
theorem dd_X1_liked_26 : jd cX1_liked 26 (.istore_n 2) 1 27 := ⟨by decide +kernel, rfl⟩
theorem dd_X1_liked_18 : jd cX1_liked 18 (.ifCond .eq 9) 3 21 := ⟨by decide +kernel, rfl⟩
theorem dd_X1_liked_27 : jd cX1_liked 27 (.iinc 3 1) 3 30 := ⟨by decide +kernel, rfl⟩
theorem dd_X1_liked_30 : jd cX1_liked 30 (.goto (-26)) 3 33 := ⟨by decide +kernel, rfl⟩
theorem dd_X1_liked_9 : jd cX1_liked 9 (.if_icmp .ge 24) 3 12 := ⟨by decide +kernel, rfl⟩
theorem dd_X1_liked_33 : jd cX1_liked 33 (.iload_n 2) 1 34 := ⟨by decide +kernel, rfl⟩
theorem dd_X1_liked_34 : jd cX1_liked 34 (.ireturn) 1 35 := ⟨by decide +kernel, rfl⟩
theorem m_X1_liked : jmV yX1_liked cX1_liked 4 (some .int) 1 := ⟨⟨(jj_m (w := Cond.code yX1_liked cX1_liked 4 (some .int)) (List.mem_of_getElem? (i := 508) (by decide +kernel)) rfl), (jj_m (w := Cond.initialized yX1_liked.cls) (List.mem_of_getElem? (i := 66) (by decide +kernel)) rfl), ⟨by decide, by decide⟩, by decide +kernel⟩, (jj_m (w := Cond.instanceMethod yX1_liked) (List.mem_of_getElem? (i := 506) (by decide +kernel)) rfl), (jj_m (w := Cond.selects yX1_liked.cls yX1_liked yX1_liked) (List.mem_of_getElem? (i := 507) (by decide +kernel)) rfl)⟩
def fX1_liked_L4 (S : M2) (i1 : Int32) (k33 : Int32 → Option (Int32)) : Nat → Int32 → Int32 → Option (Int32)
  | 0, _, _ => none
  | n_ + 1, v1, v2 =>
    if (S 0 0) ≤ v2 then
      k33 v1
    else
      (fX1_likes i1 v2 S).bind fun r3 =>
      jn (α := Option (Int32)) (β := Int32) (fun j4 =>
        if r3 = 0 then
          j4 v1
        else
          lt ((v1 ||| ((1 : Int32) <<< (v2 &&& 31)))) fun x5 =>
          j4 x5) (fun p7 => 
        lt (v2 + (1 : Int32)) fun x8 =>
        fX1_liked_L4 S i1 k33 n_ p7 x8)

def fX1_liked (i1 : Int32) (S : M2) : Option (Int32) :=
  fX1_liked_L4 S i1
    (fun p10 =>
      some p10)
    400 (0 : Int32) (0 : Int32)

set_option maxHeartbeats 4000000 in
set_option maxRecDepth 100000 in
theorem tX1_liked_L4 {V : JV M2} {b : Nat} {a : Nat → Nat} (hv : vX1 V b a) (S : M2) (i1 : Int32) {E : JE (M2) Int32} (hE : JOk V E cX1_liked yX1_liked.cls 4 1 (some .int) jj_i) {k33 : Int32 → Option (Int32)} (hk33 : ∀ p, J V E (fun r => (r, S)) (k33 p) 33 [(2, .int p)] [] S) : ∀ (n_ : Nat) (v1 : Int32) (v2 : Int32), J V E (fun r => (r, S)) (fX1_liked_L4 S i1 k33 n_ v1 v2) 4 [(0, .ref b), (1, .int i1), (2, .int v1), (3, .int v2)] [] S := by
  intro n_
  induction n_ with
  | zero =>
    intros
    exact J_none
  | succ n_ ih =>
    intros v1 v2
    rw [fX1_liked_L4]
    refine J_iload_n hE dd_X1_liked_4 3 rfl rfl ?_
    refine J_aload_n hE dd_X1_liked_5 0 rfl rfl ?_
    refine J_get hE (hv.ob _) jc_X1 0 (by decide) fl_RX1_49 (v := .int (S 0 0)) rfl dd_X1_liked_6 ?_
    refine J_icmp_ge hE (tgt := 33) dd_X1_liked_9 (by decide) (fun c9 => ?_) (fun c9 => ?_)
    · refine J_sub [2] rfl ?_
      exact hk33 v1
    · refine J_aload_n hE dd_X1_liked_12 0 rfl rfl ?_
      refine J_iload_n hE dd_X1_liked_13 1 rfl rfl ?_
      refine J_iload_n hE dd_X1_liked_14 3 rfl rfl ?_
      refine J_invVri hE (As := [.int i1, .int v2]) (st := []) (tX1_likes E.2.1 hv S i1 v2) (hv.ob _) m_X1_likes rfl ml_RX1_102 (Nat.le_of_ble_eq_true rfl) (Nat.le_of_ble_eq_true rfl) rfl (Nat.le_of_ble_eq_true rfl) dd_X1_liked_15 (fun r3 => ?_)
      refine J_jn (m := 27) (Lf := fun p7 => [(0, .ref b), (1, .int i1), (2, .int p7), (3, .int v2)]) (sf := fun p7 => []) (Xf := fun p7 => S) (fun p7 => ?_) (fun hj4 => ?_)
      · show J V E _ _ 27 [(0, .ref b), (1, .int i1), (2, .int p7), (3, .int v2)] [] S
        refine J_iincL hE (v := (v2 + (1 : Int32))) (Lf := fun x8 => [(3, .int x8), (0, .ref b), (1, .int i1), (2, .int p7)]) dd_X1_liked_27 (j := 3) rfl (congrArg (v2 + ·) (by decide)) (Nat.le_of_ble_eq_true rfl) (fun _ => rfl) (fun x8 => ?_)
        refine J_goto hE (tgt := 4) dd_X1_liked_30 (by decide) ?_
        refine J_sub [1, 2, 3, 0] rfl ?_
        exact ih p7 x8
      · refine J_if_eq hE (tgt := 27) dd_X1_liked_18 (by decide) (fun c6 => ?_) (fun c6 => ?_)
        · refine J_sub [0, 1, 2, 3] rfl ?_
          exact hj4 v1
        · refine J_iload_n hE dd_X1_liked_21 2 rfl rfl ?_
          refine J_iconst hE (v := (1 : Int32)) dd_X1_liked_22 (by decide) ?_
          refine J_iload_n hE dd_X1_liked_23 3 rfl rfl ?_
          refine J_ishl hE dd_X1_liked_24 ?_
          refine J_ior hE dd_X1_liked_25 ?_
          refine J_leti (fun x5 => ?_)
          refine J_istore_n hE (L' := [(2, .int x5), (0, .ref b), (1, .int i1), (3, .int v2)]) dd_X1_liked_26 (Nat.le_of_ble_eq_true rfl) rfl rfl ?_
          refine J_sub [1, 2, 0, 3] rfl ?_
          exact hj4 x5
set_option maxHeartbeats 4000000 in
set_option maxRecDepth 100000 in
theorem tX1_liked (l : Launch) {V : JV M2} {b : Nat} {a : Nat → Nat} (hv : vX1 V b a) (S : M2) (i1 : Int32) : JC l V yX1_liked cX1_liked 4 (some .int) jj_i 1 [.ref b, .int i1] S ((fX1_liked i1 S).map (fun r => (r, S))) := by
  refine jj_of (by decide) (Nat.le_of_ble_eq_true rfl) (fun E hlE hE => ?_)
  unfold fX1_liked
  refine J_sub (L' := [(0, .ref b), (1, .int i1)]) [0, 1] rfl ?_
  refine J_iconst hE (v := (0 : Int32)) dd_X1_liked_0 (by decide) ?_
  refine J_istore_n hE (L' := [(2, .int (0 : Int32)), (0, .ref b), (1, .int i1)]) dd_X1_liked_1 (Nat.le_of_ble_eq_true rfl) rfl rfl ?_
  refine J_iconst hE (v := (0 : Int32)) dd_X1_liked_2 (by decide) ?_
  refine J_istore_n hE (L' := [(3, .int (0 : Int32)), (2, .int (0 : Int32)), (0, .ref b), (1, .int i1)]) dd_X1_liked_3 (Nat.le_of_ble_eq_true rfl) rfl rfl ?_
  refine J_sub [2, 3, 1, 0] rfl ?_
  refine tX1_liked_L4 hv S i1 hE (fun p10 => ?_) 400 (0 : Int32) (0 : Int32)
  show J V E _ _ 33 [(2, .int p10)] [] S
  refine J_iload_n hE dd_X1_liked_33 0 rfl rfl ?_
  exact J_iret hE dd_X1_liked_34 rfl rfl
theorem dd_X1_eatDown_0 : jd cX1_eatDown 0 (.aload_n 0) 1 1 := ⟨by decide +kernel, rfl⟩
theorem dd_X1_eatDown_1 : jd cX1_eatDown 1 (.iload_n 1) 1 2 := ⟨by decide +kernel, rfl⟩
theorem ml_RX1_112 : (Cond.methodLink "MothCustoms$Shed" 112 yX1_appetite : Cond) ∈ jj_tb := jj_m (List.mem_of_getElem? (i := 595) (by decide +kernel)) rfl
theorem dd_X1_eatDown_2 : jd cX1_eatDown 2 (.invokevirtual 112) 3 5 := ⟨by decide +kernel, rfl⟩
theorem dd_X1_eatDown_5 : jd cX1_eatDown 5 (.istore_n 2) 1 6 := ⟨by decide +kernel, rfl⟩
theorem dd_X1_eatDown_6 : jd cX1_eatDown 6 (.aload_n 0) 1 7 := ⟨by decide +kernel, rfl⟩
theorem dd_X1_eatDown_7 : jd cX1_eatDown 7 (.getfield 36) 3 10 := ⟨by decide +kernel, rfl⟩
theorem dd_X1_eatDown_10 : jd cX1_eatDown 10 (.iload_n 1) 1 11 := ⟨by decide +kernel, rfl⟩
theorem dd_X1_eatDown_11 : jd cX1_eatDown 11 (.iaload) 1 12 := ⟨by decide +kernel, rfl⟩
theorem dd_X1_eatDown_12 : jd cX1_eatDown 12 (.istore_n 3) 1 13 := ⟨by decide +kernel, rfl⟩
theorem dd_X1_eatDown_13 : jd cX1_eatDown 13 (.iconst 0) 1 14 := ⟨by decide +kernel, rfl⟩
theorem dd_X1_eatDown_14 : jd cX1_eatDown 14 (.istore 4) 2 16 := ⟨by decide +kernel, rfl⟩
theorem dd_X1_eatDown_16 : jd cX1_eatDown 16 (.iload 4) 2 18 := ⟨by decide +kernel, rfl⟩
theorem dd_X1_eatDown_18 : jd cX1_eatDown 18 (.aload_n 0) 1 19 := ⟨by decide +kernel, rfl⟩
theorem dd_X1_eatDown_19 : jd cX1_eatDown 19 (.getfield 24) 3 22 := ⟨by decide +kernel, rfl⟩
theorem dd_X1_eatDown_22 : jd cX1_eatDown 22 (.iload_n 3) 1 23 := ⟨by decide +kernel, rfl⟩
theorem dd_X1_eatDown_23 : jd cX1_eatDown 23 (.iaload) 1 24 := ⟨by decide +kernel, rfl⟩
theorem dd_X1_eatDown_27 : jd cX1_eatDown 27 (.iload_n 2) 1 28 := ⟨by decide +kernel, rfl⟩
theorem dd_X1_eatDown_31 : jd cX1_eatDown 31 (.aload_n 0) 1 32 := ⟨by decide +kernel, rfl⟩
theorem dd_X1_eatDown_32 : jd cX1_eatDown 32 (.getfield 21) 3 35 := ⟨by decide +kernel, rfl⟩
theorem dd_X1_eatDown_35 : jd cX1_eatDown 35 (.iload_n 3) 1 36 := ⟨by decide +kernel, rfl⟩
theorem dd_X1_eatDown_36 : jd cX1_eatDown 36 (.iconst 5) 1 37 := ⟨by decide +kernel, rfl⟩
theorem dd_X1_eatDown_37 : jd cX1_eatDown 37 (.imul) 1 38 := ⟨by decide +kernel, rfl⟩
theorem dd_X1_eatDown_38 : jd cX1_eatDown 38 (.iload 4) 2 40 := ⟨by decide +kernel, rfl⟩
theorem dd_X1_eatDown_40 : jd cX1_eatDown 40 (.iadd) 1 41 := ⟨by decide +kernel, rfl⟩
theorem dd_X1_eatDown_41 : jd cX1_eatDown 41 (.iaload) 1 42 := ⟨by decide +kernel, rfl⟩
theorem dd_X1_eatDown_42 : jd cX1_eatDown 42 (.istore 5) 2 44 := ⟨by decide +kernel, rfl⟩
theorem dd_X1_eatDown_44 : jd cX1_eatDown 44 (.aload_n 0) 1 45 := ⟨by decide +kernel, rfl⟩
theorem dd_X1_eatDown_45 : jd cX1_eatDown 45 (.iload 5) 2 47 := ⟨by decide +kernel, rfl⟩
theorem ml_RX1_115 : (Cond.methodLink "MothCustoms$Shed" 115 yX1_hasCamphor : Cond) ∈ jj_tb := jj_m (List.mem_of_getElem? (i := 596) (by decide +kernel)) rfl
theorem dd_X1_eatDown_47 : jd cX1_eatDown 47 (.invokevirtual 115) 3 50 := ⟨by decide +kernel, rfl⟩
theorem dd_X1_eatDown_54 : jd cX1_eatDown 54 (.aload_n 0) 1 55 := ⟨by decide +kernel, rfl⟩
theorem dd_X1_eatDown_55 : jd cX1_eatDown 55 (.iload_n 1) 1 56 := ⟨by decide +kernel, rfl⟩
theorem dd_X1_eatDown_56 : jd cX1_eatDown 56 (.iload 5) 2 58 := ⟨by decide +kernel, rfl⟩
theorem dd_X1_eatDown_58 : jd cX1_eatDown 58 (.invokevirtual 102) 3 61 := ⟨by decide +kernel, rfl⟩
theorem dd_X1_eatDown_64 : jd cX1_eatDown 64 (.iload_n 2) 1 65 := ⟨by decide +kernel, rfl⟩
theorem dd_X1_eatDown_65 : jd cX1_eatDown 65 (.aload_n 0) 1 66 := ⟨by decide +kernel, rfl⟩
theorem dd_X1_eatDown_66 : jd cX1_eatDown 66 (.getfield 15) 3 69 := ⟨by decide +kernel, rfl⟩
theorem dd_X1_eatDown_69 : jd cX1_eatDown 69 (.iload 5) 2 71 := ⟨by decide +kernel, rfl⟩
theorem dd_X1_eatDown_71 : jd cX1_eatDown 71 (.iaload) 1 72 := ⟨by decide +kernel, rfl⟩
theorem dd_X1_eatDown_72 : jd cX1_eatDown 72 (.aload_n 0) 1 73 := ⟨by decide +kernel, rfl⟩
theorem dd_X1_eatDown_73 : jd cX1_eatDown 73 (.getfield 18) 3 76 := ⟨by decide +kernel, rfl⟩
theorem dd_X1_eatDown_76 : jd cX1_eatDown 76 (.iload 5) 2 78 := ⟨by decide +kernel, rfl⟩
theorem dd_X1_eatDown_78 : jd cX1_eatDown 78 (.iaload) 1 79 := ⟨by decide +kernel, rfl⟩
theorem dd_X1_eatDown_79 : jd cX1_eatDown 79 (.isub) 1 80 := ⟨by decide +kernel, rfl⟩
theorem ml_RX1_119 : (Cond.methodLink "MothCustoms$Shed" 119 Lib.Math.min.name : Cond) ∈ jj_tb := jj_m (List.mem_of_getElem? (i := 528) (by decide +kernel)) rfl
theorem dd_X1_eatDown_80 : jd cX1_eatDown 80 (.invokestatic 119) 3 83 := ⟨by decide +kernel, rfl⟩
theorem dd_X1_eatDown_83 : jd cX1_eatDown 83 (.istore 6) 2 85 := ⟨by decide +kernel, rfl⟩
theorem dd_X1_eatDown_85 : jd cX1_eatDown 85 (.aload_n 0) 1 86 := ⟨by decide +kernel, rfl⟩
theorem dd_X1_eatDown_86 : jd cX1_eatDown 86 (.getfield 18) 3 89 := ⟨by decide +kernel, rfl⟩
theorem dd_X1_eatDown_89 : jd cX1_eatDown 89 (.iload 5) 2 91 := ⟨by decide +kernel, rfl⟩
theorem dd_X1_eatDown_91 : jd cX1_eatDown 91 (.dup2) 1 92 := ⟨by decide +kernel, rfl⟩
theorem dd_X1_eatDown_92 : jd cX1_eatDown 92 (.iaload) 1 93 := ⟨by decide +kernel, rfl⟩
theorem dd_X1_eatDown_93 : jd cX1_eatDown 93 (.iload 6) 2 95 := ⟨by decide +kernel, rfl⟩
theorem dd_X1_eatDown_95 : jd cX1_eatDown 95 (.iadd) 1 96 := ⟨by decide +kernel, rfl⟩
theorem dd_X1_eatDown_96 : jd cX1_eatDown 96 (.iastore) 1 97 := ⟨by decide +kernel, rfl⟩
theorem dd_X1_eatDown_97 : jd cX1_eatDown 97 (.iload_n 2) 1 98 := ⟨by decide +kernel, rfl⟩
theorem dd_X1_eatDown_98 : jd cX1_eatDown 98 (.iload 6) 2 100 := ⟨by decide +kernel, rfl⟩
theorem dd_X1_eatDown_100 : jd cX1_eatDown 100 (.isub) 1 101 := ⟨by decide +kernel, rfl⟩
theorem dd_X1_eatDown_101 : jd cX1_eatDown 101 (.istore_n 2) 1 102 := ⟨by decide +kernel, rfl⟩
theorem dd_X1_eatDown_61 : jd cX1_eatDown 61 (.ifCond .eq 41) 3 64 := ⟨by decide +kernel, rfl⟩
theorem dd_X1_eatDown_102 : jd cX1_eatDown 102 (.iinc 4 1) 3 105 := ⟨by decide +kernel, rfl⟩
theorem dd_X1_eatDown_105 : jd cX1_eatDown 105 (.goto (-89)) 3 108 := ⟨by decide +kernel, rfl⟩
theorem dd_X1_eatDown_53 : jd cX1_eatDown 53 (.return_) 1 54 := ⟨by decide +kernel, rfl⟩
theorem dd_X1_eatDown_50 : jd cX1_eatDown 50 (.ifCond .eq 4) 3 53 := ⟨by decide +kernel, rfl⟩
theorem dd_X1_eatDown_28 : jd cX1_eatDown 28 (.ifCond .le 80) 3 31 := ⟨by decide +kernel, rfl⟩
theorem dd_X1_eatDown_24 : jd cX1_eatDown 24 (.if_icmp .ge 84) 3 27 := ⟨by decide +kernel, rfl⟩
theorem dd_X1_eatDown_108 : jd cX1_eatDown 108 (.return_) 1 109 := ⟨by decide +kernel, rfl⟩
theorem m_X1_eatDown : jmV yX1_eatDown cX1_eatDown 7 none 1 := ⟨⟨(jj_m (w := Cond.code yX1_eatDown cX1_eatDown 7 none) (List.mem_of_getElem? (i := 594) (by decide +kernel)) rfl), (jj_m (w := Cond.initialized yX1_eatDown.cls) (List.mem_of_getElem? (i := 66) (by decide +kernel)) rfl), ⟨by decide, by decide⟩, by decide +kernel⟩, (jj_m (w := Cond.instanceMethod yX1_eatDown) (List.mem_of_getElem? (i := 593) (by decide +kernel)) rfl), (jj_m (w := Cond.selects yX1_eatDown.cls yX1_eatDown yX1_eatDown) (List.mem_of_getElem? (i := 9) (by decide +kernel)) rfl)⟩
def fX1_eatDown_L16 (i1 : Int32) (x2 : Int32) (k108 : M2 → Option (M2)) : Nat → Int32 → Int32 → M2 → Option (M2)
  | 0, _, _, _ => none
  | n_ + 1, v3, v4, S5 =>
    bnd x2 3 <|
    if (S5 6 x2.toNatClampNeg) ≤ v4 then
      k108 S5
    else
      if v3 ≤ 0 then
        k108 S5
      else
        bnd ((x2 * (5 : Int32)) + v4) 15 <|
        lt ((S5 5 ((x2 * (5 : Int32)) + v4).toNatClampNeg)) fun x6 =>
        (fX1_hasCamphor x6 S5).bind fun r7 =>
        if r7 = 0 then
          (fX1_likes i1 x6 S5).bind fun r8 =>
          jn (α := Option (M2)) (β := Int32 × M2) (fun j9 =>
            if r8 = 0 then
              j9 (v3, S5)
            else
              bnd x6 5 <|
              bnd x6 5 <|
              lt ((if ((S5 2 x6.toNatClampNeg) - (S5 3 x6.toNatClampNeg)) < v3 then ((S5 2 x6.toNatClampNeg) - (S5 3 x6.toNatClampNeg)) else v3)) fun x10 =>
              bnd x6 5 <|
              bnd x6 5 <|
              lt (va_up S5 3 (upd (S5 3) x6.toNatClampNeg ((S5 3 x6.toNatClampNeg) + x10))) fun S11 =>
              lt ((v3 - x10)) fun x12 =>
              j9 (x12, S11)) (fun p14 => 
            lt (v4 + (1 : Int32)) fun x15 =>
            fX1_eatDown_L16 i1 x2 k108 n_ p14.1 x15 p14.2)
        else
          some S5

def fX1_eatDown (i1 : Int32) (S : M2) : Option (M2) :=
  (fX1_appetite i1 S).bind fun r1 =>
  bnd i1 4 <|
  lt ((S 11 i1.toNatClampNeg)) fun x2 =>
  fX1_eatDown_L16 i1 x2
    (fun p19 =>
      some p19)
    400 r1 (0 : Int32) S

set_option maxHeartbeats 4000000 in
set_option maxRecDepth 100000 in
theorem tX1_eatDown_L16 {V : JV M2} {b : Nat} {a : Nat → Nat} (hv : vX1 V b a) (i1 : Int32) (x2 : Int32) {E : JE (M2) Unit} (hE : JOk V E cX1_eatDown yX1_eatDown.cls 7 2 none jj_v) {k108 : M2 → Option (M2)} (hk108 : ∀ p, J V E (fun q => ((), q)) (k108 p) 108 [] [] p) : ∀ (n_ : Nat) (v3 : Int32) (v4 : Int32) (S5 : M2), J V E (fun q => ((), q)) (fX1_eatDown_L16 i1 x2 k108 n_ v3 v4 S5) 16 [(0, .ref b), (1, .int i1), (2, .int v3), (3, .int x2), (4, .int v4)] [] S5 := by
  intro n_
  induction n_ with
  | zero =>
    intros
    exact J_none
  | succ n_ ih =>
    intros v3 v4 S5
    rw [fX1_eatDown_L16]
    refine J_iload hE dd_X1_eatDown_16 4 rfl ?_
    refine J_aload_n hE dd_X1_eatDown_18 0 rfl rfl ?_
    refine J_get hE (hv.ob _) jc_X1 6 (by decide) fl_RX1_24 (v := .ref (a 6)) rfl dd_X1_eatDown_19 ?_
    refine J_iload_n hE dd_X1_eatDown_22 3 rfl rfl ?_
    refine J_ald hE (hv.arr 6 (n := 3) (ty := .int) (by decide) _) dd_X1_eatDown_23 ?_
    refine J_icmp_ge hE (tgt := 108) dd_X1_eatDown_24 (by decide) (fun c18 => ?_) (fun c18 => ?_)
    · refine J_sub [] rfl ?_
      exact hk108 S5
    · refine J_iload_n hE dd_X1_eatDown_27 2 rfl rfl ?_
      refine J_if_le hE (tgt := 108) dd_X1_eatDown_28 (by decide) (fun c17 => ?_) (fun c17 => ?_)
      · refine J_sub [] rfl ?_
        exact hk108 S5
      · refine J_aload_n hE dd_X1_eatDown_31 0 rfl rfl ?_
        refine J_get hE (hv.ob _) jc_X1 5 (by decide) fl_RX1_21 (v := .ref (a 5)) rfl dd_X1_eatDown_32 ?_
        refine J_iload_n hE dd_X1_eatDown_35 3 rfl rfl ?_
        refine J_iconst hE (v := (5 : Int32)) dd_X1_eatDown_36 (by decide) ?_
        refine J_imul hE dd_X1_eatDown_37 ?_
        refine J_iload hE dd_X1_eatDown_38 4 rfl ?_
        refine J_iadd hE dd_X1_eatDown_40 ?_
        refine J_ald hE (hv.arr 5 (n := 15) (ty := .int) (by decide) _) dd_X1_eatDown_41 ?_
        refine J_leti (fun x6 => ?_)
        refine J_istore hE (L' := [(5, .int x6), (0, .ref b), (1, .int i1), (2, .int v3), (3, .int x2), (4, .int v4)]) dd_X1_eatDown_42 (Nat.le_of_ble_eq_true rfl) rfl ?_
        refine J_aload_n hE dd_X1_eatDown_44 1 rfl rfl ?_
        refine J_iload hE dd_X1_eatDown_45 0 rfl ?_
        refine J_invVri hE (As := [.int x6]) (st := []) (tX1_hasCamphor E.2.1 hv S5 x6) (hv.ob _) m_X1_hasCamphor rfl ml_RX1_115 (Nat.le_of_ble_eq_true rfl) (Nat.le_of_ble_eq_true rfl) rfl (Nat.le_of_ble_eq_true rfl) dd_X1_eatDown_47 (fun r7 => ?_)
        refine J_if_eq hE (tgt := 54) dd_X1_eatDown_50 (by decide) (fun c16 => ?_) (fun c16 => ?_)
        · refine J_aload_n hE dd_X1_eatDown_54 1 rfl rfl ?_
          refine J_iload_n hE dd_X1_eatDown_55 2 rfl rfl ?_
          refine J_iload hE dd_X1_eatDown_56 0 rfl ?_
          refine J_invVri hE (As := [.int i1, .int x6]) (st := []) (tX1_likes E.2.1 hv S5 i1 x6) (hv.ob _) m_X1_likes rfl ml_RX1_102 (Nat.le_of_ble_eq_true rfl) (Nat.le_of_ble_eq_true rfl) rfl (Nat.le_of_ble_eq_true rfl) dd_X1_eatDown_58 (fun r8 => ?_)
          refine J_jn (m := 102) (Lf := fun p14 => [(0, .ref b), (1, .int i1), (2, .int p14.1), (3, .int x2), (4, .int v4)]) (sf := fun p14 => []) (Xf := fun p14 => p14.2) (fun p14 => ?_) (fun hj9 => ?_)
          · show J V E _ _ 102 [(0, .ref b), (1, .int i1), (2, .int p14.1), (3, .int x2), (4, .int v4)] [] p14.2
            refine J_iincL hE (v := (v4 + (1 : Int32))) (Lf := fun x15 => [(4, .int x15), (0, .ref b), (1, .int i1), (2, .int p14.1), (3, .int x2)]) dd_X1_eatDown_102 (j := 4) rfl (congrArg (v4 + ·) (by decide)) (Nat.le_of_ble_eq_true rfl) (fun _ => rfl) (fun x15 => ?_)
            refine J_goto hE (tgt := 16) dd_X1_eatDown_105 (by decide) ?_
            refine J_sub [1, 2, 3, 4, 0] rfl ?_
            exact ih p14.1 x15 p14.2
          · refine J_if_eq hE (tgt := 102) dd_X1_eatDown_61 (by decide) (fun c13 => ?_) (fun c13 => ?_)
            · refine J_sub [1, 2, 3, 4, 5] rfl ?_
              exact hj9 (v3, S5)
            · refine J_iload_n hE dd_X1_eatDown_64 3 rfl rfl ?_
              refine J_aload_n hE dd_X1_eatDown_65 1 rfl rfl ?_
              refine J_get hE (hv.ob _) jc_X1 2 (by decide) fl_RX1_15 (v := .ref (a 2)) rfl dd_X1_eatDown_66 ?_
              refine J_iload hE dd_X1_eatDown_69 0 rfl ?_
              refine J_ald hE (hv.arr 2 (n := 5) (ty := .int) (by decide) _) dd_X1_eatDown_71 ?_
              refine J_aload_n hE dd_X1_eatDown_72 1 rfl rfl ?_
              refine J_get hE (hv.ob _) jc_X1 3 (by decide) fl_RX1_18 (v := .ref (a 3)) rfl dd_X1_eatDown_73 ?_
              refine J_iload hE dd_X1_eatDown_76 0 rfl ?_
              refine J_ald hE (hv.arr 3 (n := 5) (ty := .int) (by decide) _) dd_X1_eatDown_78 ?_
              refine J_isub hE dd_X1_eatDown_79 ?_
              refine J_min hE ml_RX1_119 (Nat.le_of_ble_eq_true rfl) (Nat.le_of_ble_eq_true rfl) dd_X1_eatDown_80 ?_
              refine J_leti (fun x10 => ?_)
              refine J_istore hE (L' := [(6, .int x10), (5, .int x6), (0, .ref b), (1, .int i1), (2, .int v3), (3, .int x2), (4, .int v4)]) dd_X1_eatDown_83 (Nat.le_of_ble_eq_true rfl) rfl ?_
              refine J_aload_n hE dd_X1_eatDown_85 2 rfl rfl ?_
              refine J_get hE (hv.ob _) jc_X1 3 (by decide) fl_RX1_18 (v := .ref (a 3)) rfl dd_X1_eatDown_86 ?_
              refine J_iload hE dd_X1_eatDown_89 1 rfl ?_
              refine J_dup2 hE dd_X1_eatDown_91 rfl rfl ?_
              refine J_ald hE (hv.arr 3 (n := 5) (ty := .int) (by decide) _) dd_X1_eatDown_92 ?_
              refine J_iload hE dd_X1_eatDown_93 0 rfl ?_
              refine J_iadd hE dd_X1_eatDown_95 ?_
              refine J_ast hE hv 3 (N := 5) (by decide) dd_X1_eatDown_96 ?_
              refine J_letS (fun S11 => ?_)
              refine J_iload_n hE dd_X1_eatDown_97 4 rfl rfl ?_
              refine J_iload hE dd_X1_eatDown_98 0 rfl ?_
              refine J_isub hE dd_X1_eatDown_100 ?_
              refine J_leti (fun x12 => ?_)
              refine J_istore_n hE (L' := [(2, .int x12), (6, .int x10), (5, .int x6), (0, .ref b), (1, .int i1), (3, .int x2), (4, .int v4)]) dd_X1_eatDown_101 (Nat.le_of_ble_eq_true rfl) rfl rfl ?_
              refine J_sub [3, 4, 0, 5, 6] rfl ?_
              exact hj9 (x12, S11)
        · exact J_vret hE dd_X1_eatDown_53 rfl rfl
set_option maxHeartbeats 4000000 in
set_option maxRecDepth 100000 in
theorem tX1_eatDown (l : Launch) {V : JV M2} {b : Nat} {a : Nat → Nat} (hv : vX1 V b a) (S : M2) (i1 : Int32) : JC l V yX1_eatDown cX1_eatDown 7 none jj_v 2 [.ref b, .int i1] S ((fX1_eatDown i1 S).map (fun q => ((), q))) := by
  refine jj_of (by decide) (Nat.le_of_ble_eq_true rfl) (fun E hlE hE => ?_)
  unfold fX1_eatDown
  refine J_sub (L' := [(0, .ref b), (1, .int i1)]) [0, 1] rfl ?_
  refine J_aload_n hE dd_X1_eatDown_0 0 rfl rfl ?_
  refine J_iload_n hE dd_X1_eatDown_1 1 rfl rfl ?_
  refine J_invVri hE (As := [.int i1]) (st := []) (tX1_appetite E.2.1 hv S i1) (hv.ob _) m_X1_appetite rfl ml_RX1_112 (Nat.le_of_ble_eq_true rfl) (Nat.le_of_ble_eq_true rfl) rfl (Nat.le_of_ble_eq_true rfl) dd_X1_eatDown_2 (fun r1 => ?_)
  refine J_istore_n hE (L' := [(2, .int r1), (0, .ref b), (1, .int i1)]) dd_X1_eatDown_5 (Nat.le_of_ble_eq_true rfl) rfl rfl ?_
  refine J_aload_n hE dd_X1_eatDown_6 1 rfl rfl ?_
  refine J_get hE (hv.ob _) jc_X1 11 (by decide) fl_RX1_36 (v := .ref (a 11)) rfl dd_X1_eatDown_7 ?_
  refine J_iload_n hE dd_X1_eatDown_10 2 rfl rfl ?_
  refine J_ald hE (hv.arr 11 (n := 4) (ty := .int) (by decide) _) dd_X1_eatDown_11 ?_
  refine J_leti (fun x2 => ?_)
  refine J_istore_n hE (L' := [(3, .int x2), (2, .int r1), (0, .ref b), (1, .int i1)]) dd_X1_eatDown_12 (Nat.le_of_ble_eq_true rfl) rfl rfl ?_
  refine J_iconst hE (v := (0 : Int32)) dd_X1_eatDown_13 (by decide) ?_
  refine J_istore hE (L' := [(4, .int (0 : Int32)), (3, .int x2), (2, .int r1), (0, .ref b), (1, .int i1)]) dd_X1_eatDown_14 (Nat.le_of_ble_eq_true rfl) rfl ?_
  refine J_sub [3, 4, 2, 1, 0] rfl ?_
  refine tX1_eatDown_L16 hv i1 x2 hE (fun p19 => ?_) 400 r1 (0 : Int32) S
  show J V E _ _ 108 [] [] p19
  exact J_vret hE dd_X1_eatDown_108 rfl rfl
theorem dd_X1_letLoose_0 : jd cX1_letLoose 0 (.iconst 0) 1 1 := ⟨by decide +kernel, rfl⟩
theorem dd_X1_letLoose_1 : jd cX1_letLoose 1 (.istore_n 2) 1 2 := ⟨by decide +kernel, rfl⟩
theorem dd_X1_letLoose_2 : jd cX1_letLoose 2 (.iload_n 2) 1 3 := ⟨by decide +kernel, rfl⟩
theorem dd_X1_letLoose_3 : jd cX1_letLoose 3 (.aload_n 0) 1 4 := ⟨by decide +kernel, rfl⟩
theorem dd_X1_letLoose_4 : jd cX1_letLoose 4 (.getfield 55) 3 7 := ⟨by decide +kernel, rfl⟩
theorem dd_X1_letLoose_10 : jd cX1_letLoose 10 (.iload_n 1) 1 11 := ⟨by decide +kernel, rfl⟩
theorem dd_X1_letLoose_11 : jd cX1_letLoose 11 (.iload_n 2) 1 12 := ⟨by decide +kernel, rfl⟩
theorem dd_X1_letLoose_12 : jd cX1_letLoose 12 (.ishr) 1 13 := ⟨by decide +kernel, rfl⟩
theorem dd_X1_letLoose_13 : jd cX1_letLoose 13 (.iconst 1) 1 14 := ⟨by decide +kernel, rfl⟩
theorem dd_X1_letLoose_14 : jd cX1_letLoose 14 (.iand) 1 15 := ⟨by decide +kernel, rfl⟩
theorem dd_X1_letLoose_15 : jd cX1_letLoose 15 (.iconst 1) 1 16 := ⟨by decide +kernel, rfl⟩
theorem dd_X1_letLoose_19 : jd cX1_letLoose 19 (.aload_n 0) 1 20 := ⟨by decide +kernel, rfl⟩
theorem dd_X1_letLoose_20 : jd cX1_letLoose 20 (.iload_n 2) 1 21 := ⟨by decide +kernel, rfl⟩
theorem ml_RX1_109 : (Cond.methodLink "MothCustoms$Shed" 109 yX1_eatDown : Cond) ∈ jj_tb := jj_m (List.mem_of_getElem? (i := 591) (by decide +kernel)) rfl
theorem dd_X1_letLoose_21 : jd cX1_letLoose 21 (.invokevirtual 109) 3 24 := ⟨by decide +kernel, rfl⟩
theorem dd_X1_letLoose_16 : jd cX1_letLoose 16 (.if_icmp .ne 8) 3 19 := ⟨by decide +kernel, rfl⟩
theorem dd_X1_letLoose_24 : jd cX1_letLoose 24 (.iinc 2 1) 3 27 := ⟨by decide +kernel, rfl⟩
theorem dd_X1_letLoose_27 : jd cX1_letLoose 27 (.goto (-25)) 3 30 := ⟨by decide +kernel, rfl⟩
theorem dd_X1_letLoose_7 : jd cX1_letLoose 7 (.if_icmp .ge 23) 3 10 := ⟨by decide +kernel, rfl⟩
theorem dd_X1_letLoose_30 : jd cX1_letLoose 30 (.return_) 1 31 := ⟨by decide +kernel, rfl⟩
theorem m_X1_letLoose : jmV yX1_letLoose cX1_letLoose 3 none 1 := ⟨⟨(jj_m (w := Cond.code yX1_letLoose cX1_letLoose 3 none) (List.mem_of_getElem? (i := 590) (by decide +kernel)) rfl), (jj_m (w := Cond.initialized yX1_letLoose.cls) (List.mem_of_getElem? (i := 66) (by decide +kernel)) rfl), ⟨by decide, by decide⟩, by decide +kernel⟩, (jj_m (w := Cond.instanceMethod yX1_letLoose) (List.mem_of_getElem? (i := 588) (by decide +kernel)) rfl), (jj_m (w := Cond.selects yX1_letLoose.cls yX1_letLoose yX1_letLoose) (List.mem_of_getElem? (i := 589) (by decide +kernel)) rfl)⟩
def fX1_letLoose_L2 (i1 : Int32) (k30 : M2 → Option (M2)) : Nat → Int32 → M2 → Option (M2)
  | 0, _, _ => none
  | n_ + 1, v1, S2 =>
    if (S2 7 0) ≤ v1 then
      k30 S2
    else
      jn (α := Option (M2)) (β := M2) (fun j3 =>
        if ((i1 >>> (v1 &&& 31)) &&& (1 : Int32)) = (1 : Int32) then
          (fX1_eatDown v1 S2).bind fun q4 =>
          lt (q4) fun S5 =>
          j3 S5
        else
          j3 S2) (fun p7 => 
        lt (v1 + (1 : Int32)) fun x8 =>
        fX1_letLoose_L2 i1 k30 n_ x8 p7)

def fX1_letLoose (i1 : Int32) (S : M2) : Option (M2) :=
  fX1_letLoose_L2 i1
    (fun p10 =>
      some p10)
    400 (0 : Int32) S

set_option maxHeartbeats 4000000 in
set_option maxRecDepth 100000 in
theorem tX1_letLoose_L2 {V : JV M2} {b : Nat} {a : Nat → Nat} (hv : vX1 V b a) (i1 : Int32) {E : JE (M2) Unit} (hE : JOk V E cX1_letLoose yX1_letLoose.cls 3 3 none jj_v) {k30 : M2 → Option (M2)} (hk30 : ∀ p, J V E (fun q => ((), q)) (k30 p) 30 [] [] p) : ∀ (n_ : Nat) (v1 : Int32) (S2 : M2), J V E (fun q => ((), q)) (fX1_letLoose_L2 i1 k30 n_ v1 S2) 2 [(0, .ref b), (1, .int i1), (2, .int v1)] [] S2 := by
  intro n_
  induction n_ with
  | zero =>
    intros
    exact J_none
  | succ n_ ih =>
    intros v1 S2
    rw [fX1_letLoose_L2]
    refine J_iload_n hE dd_X1_letLoose_2 2 rfl rfl ?_
    refine J_aload_n hE dd_X1_letLoose_3 0 rfl rfl ?_
    refine J_get hE (hv.ob _) jc_X1 7 (by decide) fl_RX1_55 (v := .int (S2 7 0)) rfl dd_X1_letLoose_4 ?_
    refine J_icmp_ge hE (tgt := 30) dd_X1_letLoose_7 (by decide) (fun c9 => ?_) (fun c9 => ?_)
    · refine J_sub [] rfl ?_
      exact hk30 S2
    · refine J_iload_n hE dd_X1_letLoose_10 1 rfl rfl ?_
      refine J_iload_n hE dd_X1_letLoose_11 2 rfl rfl ?_
      refine J_ishr hE dd_X1_letLoose_12 ?_
      refine J_iconst hE (v := (1 : Int32)) dd_X1_letLoose_13 (by decide) ?_
      refine J_iand hE dd_X1_letLoose_14 ?_
      refine J_iconst hE (v := (1 : Int32)) dd_X1_letLoose_15 (by decide) ?_
      refine J_jn (m := 24) (Lf := fun p7 => [(0, .ref b), (1, .int i1), (2, .int v1)]) (sf := fun p7 => []) (Xf := fun p7 => p7) (fun p7 => ?_) (fun hj3 => ?_)
      · show J V E _ _ 24 [(0, .ref b), (1, .int i1), (2, .int v1)] [] p7
        refine J_iincL hE (v := (v1 + (1 : Int32))) (Lf := fun x8 => [(2, .int x8), (0, .ref b), (1, .int i1)]) dd_X1_letLoose_24 (j := 2) rfl (congrArg (v1 + ·) (by decide)) (Nat.le_of_ble_eq_true rfl) (fun _ => rfl) (fun x8 => ?_)
        refine J_goto hE (tgt := 2) dd_X1_letLoose_27 (by decide) ?_
        refine J_sub [1, 2, 0] rfl ?_
        exact ih x8 p7
      · refine J_icmp_ne hE (tgt := 24) dd_X1_letLoose_16 (by decide) (fun c6 => ?_) (fun c6 => ?_)
        · refine J_sub [0, 1, 2] rfl ?_
          exact hj3 S2
        · refine J_aload_n hE dd_X1_letLoose_19 0 rfl rfl ?_
          refine J_iload_n hE dd_X1_letLoose_20 2 rfl rfl ?_
          refine J_invVwv hE (e := fun x => x) (As := [.int v1]) (st := []) (tX1_eatDown E.2.1 hv S2 v1) (hv.ob _) m_X1_eatDown rfl ml_RX1_109 (Nat.le_of_ble_eq_true rfl) (Nat.le_of_ble_eq_true rfl) rfl (Nat.le_of_ble_eq_true rfl) dd_X1_letLoose_21 (fun q4 => ?_)
          refine J_letS (fun S5 => ?_)
          refine J_sub [0, 1, 2] rfl ?_
          exact hj3 S5
set_option maxHeartbeats 4000000 in
set_option maxRecDepth 100000 in
theorem tX1_letLoose (l : Launch) {V : JV M2} {b : Nat} {a : Nat → Nat} (hv : vX1 V b a) (S : M2) (i1 : Int32) : JC l V yX1_letLoose cX1_letLoose 3 none jj_v 3 [.ref b, .int i1] S ((fX1_letLoose i1 S).map (fun q => ((), q))) := by
  refine jj_of (by decide) (Nat.le_of_ble_eq_true rfl) (fun E hlE hE => ?_)
  unfold fX1_letLoose
  refine J_sub (L' := [(0, .ref b), (1, .int i1)]) [0, 1] rfl ?_
  refine J_iconst hE (v := (0 : Int32)) dd_X1_letLoose_0 (by decide) ?_
  refine J_istore_n hE (L' := [(2, .int (0 : Int32)), (0, .ref b), (1, .int i1)]) dd_X1_letLoose_1 (Nat.le_of_ble_eq_true rfl) rfl rfl ?_
  refine J_sub [1, 2, 0] rfl ?_
  refine tX1_letLoose_L2 hv i1 hE (fun p10 => ?_) 400 (0 : Int32) S
  show J V E _ _ 30 [] [] p10
  exact J_vret hE dd_X1_letLoose_30 rfl rfl
theorem dd_X1_passNight_0 : jd cX1_passNight 0 (.aload_n 0) 1 1 := ⟨by decide +kernel, rfl⟩
theorem dd_X1_passNight_1 : jd cX1_passNight 1 (.bipush 15) 2 3 := ⟨by decide +kernel, rfl⟩
theorem ml_RX1_106 : (Cond.methodLink "MothCustoms$Shed" 106 yX1_letLoose : Cond) ∈ jj_tb := jj_m (List.mem_of_getElem? (i := 587) (by decide +kernel)) rfl
theorem dd_X1_passNight_3 : jd cX1_passNight 3 (.invokevirtual 106) 3 6 := ⟨by decide +kernel, rfl⟩
theorem dd_X1_passNight_6 : jd cX1_passNight 6 (.aload_n 0) 1 7 := ⟨by decide +kernel, rfl⟩
theorem dd_X1_passNight_7 : jd cX1_passNight 7 (.aload_n 0) 1 8 := ⟨by decide +kernel, rfl⟩
theorem dd_X1_passNight_8 : jd cX1_passNight 8 (.getfield 58) 3 11 := ⟨by decide +kernel, rfl⟩
theorem dd_X1_passNight_11 : jd cX1_passNight 11 (.iconst 1) 1 12 := ⟨by decide +kernel, rfl⟩
theorem dd_X1_passNight_12 : jd cX1_passNight 12 (.iadd) 1 13 := ⟨by decide +kernel, rfl⟩
theorem dd_X1_passNight_13 : jd cX1_passNight 13 (.iconst 4) 1 14 := ⟨by decide +kernel, rfl⟩
theorem dd_X1_passNight_14 : jd cX1_passNight 14 (.irem) 1 15 := ⟨by decide +kernel, rfl⟩
theorem dd_X1_passNight_15 : jd cX1_passNight 15 (.putfield 58) 3 18 := ⟨by decide +kernel, rfl⟩
theorem dd_X1_passNight_18 : jd cX1_passNight 18 (.aload_n 0) 1 19 := ⟨by decide +kernel, rfl⟩
theorem dd_X1_passNight_19 : jd cX1_passNight 19 (.dup) 1 20 := ⟨by decide +kernel, rfl⟩
theorem dd_X1_passNight_20 : jd cX1_passNight 20 (.getfield 61) 3 23 := ⟨by decide +kernel, rfl⟩
theorem dd_X1_passNight_23 : jd cX1_passNight 23 (.iconst 1) 1 24 := ⟨by decide +kernel, rfl⟩
theorem dd_X1_passNight_24 : jd cX1_passNight 24 (.iadd) 1 25 := ⟨by decide +kernel, rfl⟩
theorem dd_X1_passNight_25 : jd cX1_passNight 25 (.putfield 61) 3 28 := ⟨by decide +kernel, rfl⟩
theorem dd_X1_passNight_28 : jd cX1_passNight 28 (.return_) 1 29 := ⟨by decide +kernel, rfl⟩
theorem m_X1_passNight : jmV yX1_passNight cX1_passNight 1 none 0 := ⟨⟨(jj_m (w := Cond.code yX1_passNight cX1_passNight 1 none) (List.mem_of_getElem? (i := 586) (by decide +kernel)) rfl), (jj_m (w := Cond.initialized yX1_passNight.cls) (List.mem_of_getElem? (i := 66) (by decide +kernel)) rfl), ⟨by decide, by decide⟩, by decide +kernel⟩, (jj_m (w := Cond.instanceMethod yX1_passNight) (List.mem_of_getElem? (i := 584) (by decide +kernel)) rfl), (jj_m (w := Cond.selects yX1_passNight.cls yX1_passNight yX1_passNight) (List.mem_of_getElem? (i := 585) (by decide +kernel)) rfl)⟩
def fX1_passNight  (S : M2) : Option (M2) :=
  (fX1_letLoose (15 : Int32) S).bind fun q1 =>
  lt (q1) fun S2 =>
  if (4 : Int32) = 0 then none else
  lt (va_up S2 12 (fun _ => (((S2 12 0) + (1 : Int32)) - ((S2 12 0) + (1 : Int32)) / (4 : Int32) * (4 : Int32)))) fun S3 =>
  lt (va_up S3 14 (fun _ => ((S3 14 0) + (1 : Int32)))) fun S4 =>
  some S4

set_option maxHeartbeats 4000000 in
set_option maxRecDepth 100000 in
theorem tX1_passNight (l : Launch) {V : JV M2} {b : Nat} {a : Nat → Nat} (hv : vX1 V b a) (S : M2)  : JC l V yX1_passNight cX1_passNight 1 none jj_v 4 [.ref b] S ((fX1_passNight  S).map (fun q => ((), q))) := by
  refine jj_of (by decide) (Nat.le_of_ble_eq_true rfl) (fun E hlE hE => ?_)
  unfold fX1_passNight
  refine J_sub (L' := [(0, .ref b)]) [0] rfl ?_
  refine J_aload_n hE dd_X1_passNight_0 0 rfl rfl ?_
  refine J_bipush hE (v := (15 : Int32)) dd_X1_passNight_1 (by decide) ?_
  refine J_invVwv hE (e := fun x => x) (As := [.int (15 : Int32)]) (st := []) (tX1_letLoose E.2.1 hv S (15 : Int32)) (hv.ob _) m_X1_letLoose rfl ml_RX1_106 (Nat.le_of_ble_eq_true rfl) (Nat.le_of_ble_eq_true rfl) rfl (Nat.le_of_ble_eq_true rfl) dd_X1_passNight_3 (fun q1 => ?_)
  refine J_letS (fun S2 => ?_)
  refine J_aload_n hE dd_X1_passNight_6 0 rfl rfl ?_
  refine J_aload_n hE dd_X1_passNight_7 0 rfl rfl ?_
  refine J_get hE (hv.ob _) jc_X1 12 (by decide) fl_RX1_58 (v := .int (S2 12 0)) rfl dd_X1_passNight_8 ?_
  refine J_iconst hE (v := (1 : Int32)) dd_X1_passNight_11 (by decide) ?_
  refine J_iadd hE dd_X1_passNight_12 ?_
  refine J_iconst hE (v := (4 : Int32)) dd_X1_passNight_13 (by decide) ?_
  refine J_irem hE dd_X1_passNight_14 (fun _ => ?_)
  refine J_put hE hv jc_X1 12 (by decide) (by decide) fl_RX1_58 rfl rfl rfl (Nat.le_of_ble_eq_true rfl) dd_X1_passNight_15 ?_
  refine J_letS (fun S3 => ?_)
  refine J_aload_n hE dd_X1_passNight_18 0 rfl rfl ?_
  refine J_dup hE dd_X1_passNight_19 rfl ?_
  refine J_get hE (hv.ob _) jc_X1 14 (by decide) fl_RX1_61 (v := .int (S3 14 0)) rfl dd_X1_passNight_20 ?_
  refine J_iconst hE (v := (1 : Int32)) dd_X1_passNight_23 (by decide) ?_
  refine J_iadd hE dd_X1_passNight_24 ?_
  refine J_put hE hv jc_X1 14 (by decide) (by decide) fl_RX1_61 rfl rfl rfl (Nat.le_of_ble_eq_true rfl) dd_X1_passNight_25 ?_
  refine J_letS (fun S4 => ?_)
  exact J_vret hE dd_X1_passNight_28 rfl rfl
theorem dd_X1_dutyOf_0 : jd cX1_dutyOf 0 (.iconst 0) 1 1 := ⟨by decide +kernel, rfl⟩
theorem dd_X1_dutyOf_1 : jd cX1_dutyOf 1 (.istore_n 2) 1 2 := ⟨by decide +kernel, rfl⟩
theorem dd_X1_dutyOf_2 : jd cX1_dutyOf 2 (.iconst 0) 1 3 := ⟨by decide +kernel, rfl⟩
theorem dd_X1_dutyOf_3 : jd cX1_dutyOf 3 (.istore_n 3) 1 4 := ⟨by decide +kernel, rfl⟩
theorem dd_X1_dutyOf_4 : jd cX1_dutyOf 4 (.iconst 0) 1 5 := ⟨by decide +kernel, rfl⟩
theorem dd_X1_dutyOf_5 : jd cX1_dutyOf 5 (.istore 4) 2 7 := ⟨by decide +kernel, rfl⟩
theorem dd_X1_dutyOf_7 : jd cX1_dutyOf 7 (.iload 4) 2 9 := ⟨by decide +kernel, rfl⟩
theorem dd_X1_dutyOf_9 : jd cX1_dutyOf 9 (.aload_n 0) 1 10 := ⟨by decide +kernel, rfl⟩
theorem dd_X1_dutyOf_10 : jd cX1_dutyOf 10 (.getfield 24) 3 13 := ⟨by decide +kernel, rfl⟩
theorem dd_X1_dutyOf_13 : jd cX1_dutyOf 13 (.iload_n 1) 1 14 := ⟨by decide +kernel, rfl⟩
theorem dd_X1_dutyOf_14 : jd cX1_dutyOf 14 (.iaload) 1 15 := ⟨by decide +kernel, rfl⟩
theorem dd_X1_dutyOf_18 : jd cX1_dutyOf 18 (.aload_n 0) 1 19 := ⟨by decide +kernel, rfl⟩
theorem dd_X1_dutyOf_19 : jd cX1_dutyOf 19 (.getfield 18) 3 22 := ⟨by decide +kernel, rfl⟩
theorem dd_X1_dutyOf_22 : jd cX1_dutyOf 22 (.aload_n 0) 1 23 := ⟨by decide +kernel, rfl⟩
theorem dd_X1_dutyOf_23 : jd cX1_dutyOf 23 (.getfield 21) 3 26 := ⟨by decide +kernel, rfl⟩
theorem dd_X1_dutyOf_26 : jd cX1_dutyOf 26 (.iload_n 1) 1 27 := ⟨by decide +kernel, rfl⟩
theorem dd_X1_dutyOf_27 : jd cX1_dutyOf 27 (.iconst 5) 1 28 := ⟨by decide +kernel, rfl⟩
theorem dd_X1_dutyOf_28 : jd cX1_dutyOf 28 (.imul) 1 29 := ⟨by decide +kernel, rfl⟩
theorem dd_X1_dutyOf_29 : jd cX1_dutyOf 29 (.iload 4) 2 31 := ⟨by decide +kernel, rfl⟩
theorem dd_X1_dutyOf_31 : jd cX1_dutyOf 31 (.iadd) 1 32 := ⟨by decide +kernel, rfl⟩
theorem dd_X1_dutyOf_32 : jd cX1_dutyOf 32 (.iaload) 1 33 := ⟨by decide +kernel, rfl⟩
theorem dd_X1_dutyOf_33 : jd cX1_dutyOf 33 (.iaload) 1 34 := ⟨by decide +kernel, rfl⟩
theorem dd_X1_dutyOf_34 : jd cX1_dutyOf 34 (.istore 5) 2 36 := ⟨by decide +kernel, rfl⟩
theorem dd_X1_dutyOf_36 : jd cX1_dutyOf 36 (.iload_n 2) 1 37 := ⟨by decide +kernel, rfl⟩
theorem dd_X1_dutyOf_37 : jd cX1_dutyOf 37 (.iload 5) 2 39 := ⟨by decide +kernel, rfl⟩
theorem dd_X1_dutyOf_39 : jd cX1_dutyOf 39 (.iload 5) 2 41 := ⟨by decide +kernel, rfl⟩
theorem dd_X1_dutyOf_41 : jd cX1_dutyOf 41 (.iload_n 3) 1 42 := ⟨by decide +kernel, rfl⟩
theorem dd_X1_dutyOf_42 : jd cX1_dutyOf 42 (.invokestatic 119) 3 45 := ⟨by decide +kernel, rfl⟩
theorem dd_X1_dutyOf_45 : jd cX1_dutyOf 45 (.isub) 1 46 := ⟨by decide +kernel, rfl⟩
theorem dd_X1_dutyOf_46 : jd cX1_dutyOf 46 (.iadd) 1 47 := ⟨by decide +kernel, rfl⟩
theorem dd_X1_dutyOf_47 : jd cX1_dutyOf 47 (.istore_n 2) 1 48 := ⟨by decide +kernel, rfl⟩
theorem dd_X1_dutyOf_48 : jd cX1_dutyOf 48 (.iload 5) 2 50 := ⟨by decide +kernel, rfl⟩
theorem dd_X1_dutyOf_50 : jd cX1_dutyOf 50 (.istore_n 3) 1 51 := ⟨by decide +kernel, rfl⟩
theorem dd_X1_dutyOf_51 : jd cX1_dutyOf 51 (.iinc 4 1) 3 54 := ⟨by decide +kernel, rfl⟩
theorem dd_X1_dutyOf_54 : jd cX1_dutyOf 54 (.goto (-47)) 3 57 := ⟨by decide +kernel, rfl⟩
theorem dd_X1_dutyOf_15 : jd cX1_dutyOf 15 (.if_icmp .ge 42) 3 18 := ⟨by decide +kernel, rfl⟩
theorem dd_X1_dutyOf_57 : jd cX1_dutyOf 57 (.iload_n 2) 1 58 := ⟨by decide +kernel, rfl⟩
theorem dd_X1_dutyOf_58 : jd cX1_dutyOf 58 (.aload_n 0) 1 59 := ⟨by decide +kernel, rfl⟩
theorem dd_X1_dutyOf_59 : jd cX1_dutyOf 59 (.getfield 39) 3 62 := ⟨by decide +kernel, rfl⟩
theorem dd_X1_dutyOf_62 : jd cX1_dutyOf 62 (.imul) 1 63 := ⟨by decide +kernel, rfl⟩
theorem dd_X1_dutyOf_63 : jd cX1_dutyOf 63 (.ireturn) 1 64 := ⟨by decide +kernel, rfl⟩
theorem m_X1_dutyOf : jmV yX1_dutyOf cX1_dutyOf 6 (some .int) 1 := ⟨⟨(jj_m (w := Cond.code yX1_dutyOf cX1_dutyOf 6 (some .int)) (List.mem_of_getElem? (i := 527) (by decide +kernel)) rfl), (jj_m (w := Cond.initialized yX1_dutyOf.cls) (List.mem_of_getElem? (i := 66) (by decide +kernel)) rfl), ⟨by decide, by decide⟩, by decide +kernel⟩, (jj_m (w := Cond.instanceMethod yX1_dutyOf) (List.mem_of_getElem? (i := 525) (by decide +kernel)) rfl), (jj_m (w := Cond.selects yX1_dutyOf.cls yX1_dutyOf yX1_dutyOf) (List.mem_of_getElem? (i := 526) (by decide +kernel)) rfl)⟩
def fX1_dutyOf_L7 (S : M2) (i1 : Int32) (k57 : Int32 → Option (Int32)) : Nat → Int32 → Int32 → Int32 → Option (Int32)
  | 0, _, _, _ => none
  | n_ + 1, v1, v2, v3 =>
    bnd i1 3 <|
    if (S 6 i1.toNatClampNeg) ≤ v3 then
      k57 v1
    else
      bnd ((i1 * (5 : Int32)) + v3) 15 <|
      bnd (S 5 ((i1 * (5 : Int32)) + v3).toNatClampNeg) 5 <|
      lt ((S 3 (S 5 ((i1 * (5 : Int32)) + v3).toNatClampNeg).toNatClampNeg)) fun x4 =>
      lt ((v1 + (x4 - (if v2 < x4 then v2 else x4)))) fun x5 =>
      lt (v3 + (1 : Int32)) fun x6 =>
      fX1_dutyOf_L7 S i1 k57 n_ x5 x4 x6

def fX1_dutyOf (i1 : Int32) (S : M2) : Option (Int32) :=
  fX1_dutyOf_L7 S i1
    (fun p8 =>
      some (p8 * (S 13 0)))
    400 (0 : Int32) (0 : Int32) (0 : Int32)

set_option maxHeartbeats 4000000 in
set_option maxRecDepth 100000 in
theorem tX1_dutyOf_L7 {V : JV M2} {b : Nat} {a : Nat → Nat} (hv : vX1 V b a) (S : M2) (i1 : Int32) {E : JE (M2) Int32} (hE : JOk V E cX1_dutyOf yX1_dutyOf.cls 6 1 (some .int) jj_i) {k57 : Int32 → Option (Int32)} (hk57 : ∀ p, J V E (fun r => (r, S)) (k57 p) 57 [(0, .ref b), (2, .int p)] [] S) : ∀ (n_ : Nat) (v1 : Int32) (v2 : Int32) (v3 : Int32), J V E (fun r => (r, S)) (fX1_dutyOf_L7 S i1 k57 n_ v1 v2 v3) 7 [(0, .ref b), (1, .int i1), (2, .int v1), (3, .int v2), (4, .int v3)] [] S := by
  intro n_
  induction n_ with
  | zero =>
    intros
    exact J_none
  | succ n_ ih =>
    intros v1 v2 v3
    rw [fX1_dutyOf_L7]
    refine J_iload hE dd_X1_dutyOf_7 4 rfl ?_
    refine J_aload_n hE dd_X1_dutyOf_9 0 rfl rfl ?_
    refine J_get hE (hv.ob _) jc_X1 6 (by decide) fl_RX1_24 (v := .ref (a 6)) rfl dd_X1_dutyOf_10 ?_
    refine J_iload_n hE dd_X1_dutyOf_13 1 rfl rfl ?_
    refine J_ald hE (hv.arr 6 (n := 3) (ty := .int) (by decide) _) dd_X1_dutyOf_14 ?_
    refine J_icmp_ge hE (tgt := 57) dd_X1_dutyOf_15 (by decide) (fun c7 => ?_) (fun c7 => ?_)
    · refine J_sub [0, 2] rfl ?_
      exact hk57 v1
    · refine J_aload_n hE dd_X1_dutyOf_18 0 rfl rfl ?_
      refine J_get hE (hv.ob _) jc_X1 3 (by decide) fl_RX1_18 (v := .ref (a 3)) rfl dd_X1_dutyOf_19 ?_
      refine J_aload_n hE dd_X1_dutyOf_22 0 rfl rfl ?_
      refine J_get hE (hv.ob _) jc_X1 5 (by decide) fl_RX1_21 (v := .ref (a 5)) rfl dd_X1_dutyOf_23 ?_
      refine J_iload_n hE dd_X1_dutyOf_26 1 rfl rfl ?_
      refine J_iconst hE (v := (5 : Int32)) dd_X1_dutyOf_27 (by decide) ?_
      refine J_imul hE dd_X1_dutyOf_28 ?_
      refine J_iload hE dd_X1_dutyOf_29 4 rfl ?_
      refine J_iadd hE dd_X1_dutyOf_31 ?_
      refine J_ald hE (hv.arr 5 (n := 15) (ty := .int) (by decide) _) dd_X1_dutyOf_32 ?_
      refine J_ald hE (hv.arr 3 (n := 5) (ty := .int) (by decide) _) dd_X1_dutyOf_33 ?_
      refine J_leti (fun x4 => ?_)
      refine J_istore hE (L' := [(5, .int x4), (0, .ref b), (1, .int i1), (2, .int v1), (3, .int v2), (4, .int v3)]) dd_X1_dutyOf_34 (Nat.le_of_ble_eq_true rfl) rfl ?_
      refine J_iload_n hE dd_X1_dutyOf_36 3 rfl rfl ?_
      refine J_iload hE dd_X1_dutyOf_37 0 rfl ?_
      refine J_iload hE dd_X1_dutyOf_39 0 rfl ?_
      refine J_iload_n hE dd_X1_dutyOf_41 4 rfl rfl ?_
      refine J_min hE ml_RX1_119 (Nat.le_of_ble_eq_true rfl) (Nat.le_of_ble_eq_true rfl) dd_X1_dutyOf_42 ?_
      refine J_isub hE dd_X1_dutyOf_45 ?_
      refine J_iadd hE dd_X1_dutyOf_46 ?_
      refine J_leti (fun x5 => ?_)
      refine J_istore_n hE (L' := [(2, .int x5), (5, .int x4), (0, .ref b), (1, .int i1), (3, .int v2), (4, .int v3)]) dd_X1_dutyOf_47 (Nat.le_of_ble_eq_true rfl) rfl rfl ?_
      refine J_iload hE dd_X1_dutyOf_48 1 rfl ?_
      refine J_istore_n hE (L' := [(3, .int x4), (2, .int x5), (5, .int x4), (0, .ref b), (1, .int i1), (4, .int v3)]) dd_X1_dutyOf_50 (Nat.le_of_ble_eq_true rfl) rfl rfl ?_
      refine J_iincL hE (v := (v3 + (1 : Int32))) (Lf := fun x6 => [(4, .int x6), (3, .int x4), (2, .int x5), (5, .int x4), (0, .ref b), (1, .int i1)]) dd_X1_dutyOf_51 (j := 5) rfl (congrArg (v3 + ·) (by decide)) (Nat.le_of_ble_eq_true rfl) (fun _ => rfl) (fun x6 => ?_)
      refine J_goto hE (tgt := 7) dd_X1_dutyOf_54 (by decide) ?_
      refine J_sub [4, 5, 2, 1, 0] rfl ?_
      exact ih x5 x4 x6
set_option maxHeartbeats 4000000 in
set_option maxRecDepth 100000 in
theorem tX1_dutyOf (l : Launch) {V : JV M2} {b : Nat} {a : Nat → Nat} (hv : vX1 V b a) (S : M2) (i1 : Int32) : JC l V yX1_dutyOf cX1_dutyOf 6 (some .int) jj_i 1 [.ref b, .int i1] S ((fX1_dutyOf i1 S).map (fun r => (r, S))) := by
  refine jj_of (by decide) (Nat.le_of_ble_eq_true rfl) (fun E hlE hE => ?_)
  unfold fX1_dutyOf
  refine J_sub (L' := [(0, .ref b), (1, .int i1)]) [0, 1] rfl ?_
  refine J_iconst hE (v := (0 : Int32)) dd_X1_dutyOf_0 (by decide) ?_
  refine J_istore_n hE (L' := [(2, .int (0 : Int32)), (0, .ref b), (1, .int i1)]) dd_X1_dutyOf_1 (Nat.le_of_ble_eq_true rfl) rfl rfl ?_
  refine J_iconst hE (v := (0 : Int32)) dd_X1_dutyOf_2 (by decide) ?_
  refine J_istore_n hE (L' := [(3, .int (0 : Int32)), (2, .int (0 : Int32)), (0, .ref b), (1, .int i1)]) dd_X1_dutyOf_3 (Nat.le_of_ble_eq_true rfl) rfl rfl ?_
  refine J_iconst hE (v := (0 : Int32)) dd_X1_dutyOf_4 (by decide) ?_
  refine J_istore hE (L' := [(4, .int (0 : Int32)), (3, .int (0 : Int32)), (2, .int (0 : Int32)), (0, .ref b), (1, .int i1)]) dd_X1_dutyOf_5 (Nat.le_of_ble_eq_true rfl) rfl ?_
  refine J_sub [3, 4, 2, 1, 0] rfl ?_
  refine tX1_dutyOf_L7 hv S i1 hE (fun p8 => ?_) 400 (0 : Int32) (0 : Int32) (0 : Int32)
  show J V E _ _ 57 [(0, .ref b), (2, .int p8)] [] S
  refine J_iload_n hE dd_X1_dutyOf_57 1 rfl rfl ?_
  refine J_aload_n hE dd_X1_dutyOf_58 0 rfl rfl ?_
  refine J_get hE (hv.ob _) jc_X1 13 (by decide) fl_RX1_39 (v := .int (S 13 0)) rfl dd_X1_dutyOf_59 ?_
  refine J_imul hE dd_X1_dutyOf_62 ?_
  exact J_iret hE dd_X1_dutyOf_63 rfl rfl
theorem dd_X1_dutyOfAll_0 : jd cX1_dutyOfAll 0 (.iconst 0) 1 1 := ⟨by decide +kernel, rfl⟩
theorem dd_X1_dutyOfAll_1 : jd cX1_dutyOfAll 1 (.istore_n 1) 1 2 := ⟨by decide +kernel, rfl⟩
theorem dd_X1_dutyOfAll_2 : jd cX1_dutyOfAll 2 (.iconst 0) 1 3 := ⟨by decide +kernel, rfl⟩
theorem dd_X1_dutyOfAll_3 : jd cX1_dutyOfAll 3 (.istore_n 2) 1 4 := ⟨by decide +kernel, rfl⟩
theorem dd_X1_dutyOfAll_4 : jd cX1_dutyOfAll 4 (.iload_n 2) 1 5 := ⟨by decide +kernel, rfl⟩
theorem dd_X1_dutyOfAll_5 : jd cX1_dutyOfAll 5 (.iconst 3) 1 6 := ⟨by decide +kernel, rfl⟩
theorem dd_X1_dutyOfAll_9 : jd cX1_dutyOfAll 9 (.iload_n 1) 1 10 := ⟨by decide +kernel, rfl⟩
theorem dd_X1_dutyOfAll_10 : jd cX1_dutyOfAll 10 (.aload_n 0) 1 11 := ⟨by decide +kernel, rfl⟩
theorem dd_X1_dutyOfAll_11 : jd cX1_dutyOfAll 11 (.iload_n 2) 1 12 := ⟨by decide +kernel, rfl⟩
theorem ml_RX1_122 : (Cond.methodLink "MothCustoms$Shed" 122 yX1_dutyOf : Cond) ∈ jj_tb := jj_m (List.mem_of_getElem? (i := 601) (by decide +kernel)) rfl
theorem dd_X1_dutyOfAll_12 : jd cX1_dutyOfAll 12 (.invokevirtual 122) 3 15 := ⟨by decide +kernel, rfl⟩
theorem dd_X1_dutyOfAll_15 : jd cX1_dutyOfAll 15 (.iadd) 1 16 := ⟨by decide +kernel, rfl⟩
theorem dd_X1_dutyOfAll_16 : jd cX1_dutyOfAll 16 (.istore_n 1) 1 17 := ⟨by decide +kernel, rfl⟩
theorem dd_X1_dutyOfAll_17 : jd cX1_dutyOfAll 17 (.iinc 2 1) 3 20 := ⟨by decide +kernel, rfl⟩
theorem dd_X1_dutyOfAll_20 : jd cX1_dutyOfAll 20 (.goto (-16)) 3 23 := ⟨by decide +kernel, rfl⟩
theorem dd_X1_dutyOfAll_6 : jd cX1_dutyOfAll 6 (.if_icmp .ge 17) 3 9 := ⟨by decide +kernel, rfl⟩
theorem dd_X1_dutyOfAll_23 : jd cX1_dutyOfAll 23 (.iload_n 1) 1 24 := ⟨by decide +kernel, rfl⟩
theorem dd_X1_dutyOfAll_24 : jd cX1_dutyOfAll 24 (.ireturn) 1 25 := ⟨by decide +kernel, rfl⟩
theorem m_X1_dutyOfAll : jmV yX1_dutyOfAll cX1_dutyOfAll 3 (some .int) 0 := ⟨⟨(jj_m (w := Cond.code yX1_dutyOfAll cX1_dutyOfAll 3 (some .int)) (List.mem_of_getElem? (i := 600) (by decide +kernel)) rfl), (jj_m (w := Cond.initialized yX1_dutyOfAll.cls) (List.mem_of_getElem? (i := 66) (by decide +kernel)) rfl), ⟨by decide, by decide⟩, by decide +kernel⟩, (jj_m (w := Cond.instanceMethod yX1_dutyOfAll) (List.mem_of_getElem? (i := 598) (by decide +kernel)) rfl), (jj_m (w := Cond.selects yX1_dutyOfAll.cls yX1_dutyOfAll yX1_dutyOfAll) (List.mem_of_getElem? (i := 599) (by decide +kernel)) rfl)⟩
def fX1_dutyOfAll_L4 (S : M2) (k23 : Int32 → Option (Int32)) : Nat → Int32 → Int32 → Option (Int32)
  | 0, _, _ => none
  | n_ + 1, v1, v2 =>
    if (3 : Int32) ≤ v2 then
      k23 v1
    else
      (fX1_dutyOf v2 S).bind fun r3 =>
      lt ((v1 + r3)) fun x4 =>
      lt (v2 + (1 : Int32)) fun x5 =>
      fX1_dutyOfAll_L4 S k23 n_ x4 x5

def fX1_dutyOfAll  (S : M2) : Option (Int32) :=
  fX1_dutyOfAll_L4 S
    (fun p7 =>
      some p7)
    400 (0 : Int32) (0 : Int32)

set_option maxHeartbeats 4000000 in
set_option maxRecDepth 100000 in
theorem tX1_dutyOfAll_L4 {V : JV M2} {b : Nat} {a : Nat → Nat} (hv : vX1 V b a) (S : M2) {E : JE (M2) Int32} (hE : JOk V E cX1_dutyOfAll yX1_dutyOfAll.cls 3 2 (some .int) jj_i) {k23 : Int32 → Option (Int32)} (hk23 : ∀ p, J V E (fun r => (r, S)) (k23 p) 23 [(1, .int p)] [] S) : ∀ (n_ : Nat) (v1 : Int32) (v2 : Int32), J V E (fun r => (r, S)) (fX1_dutyOfAll_L4 S k23 n_ v1 v2) 4 [(0, .ref b), (1, .int v1), (2, .int v2)] [] S := by
  intro n_
  induction n_ with
  | zero =>
    intros
    exact J_none
  | succ n_ ih =>
    intros v1 v2
    rw [fX1_dutyOfAll_L4]
    refine J_iload_n hE dd_X1_dutyOfAll_4 2 rfl rfl ?_
    refine J_iconst hE (v := (3 : Int32)) dd_X1_dutyOfAll_5 (by decide) ?_
    refine J_icmp_ge hE (tgt := 23) dd_X1_dutyOfAll_6 (by decide) (fun c6 => ?_) (fun c6 => ?_)
    · refine J_sub [1] rfl ?_
      exact hk23 v1
    · refine J_iload_n hE dd_X1_dutyOfAll_9 1 rfl rfl ?_
      refine J_aload_n hE dd_X1_dutyOfAll_10 0 rfl rfl ?_
      refine J_iload_n hE dd_X1_dutyOfAll_11 2 rfl rfl ?_
      refine J_invVri hE (As := [.int v2]) (st := [.int v1]) (tX1_dutyOf E.2.1 hv S v2) (hv.ob _) m_X1_dutyOf rfl ml_RX1_122 (Nat.le_of_ble_eq_true rfl) (Nat.le_of_ble_eq_true rfl) rfl (Nat.le_of_ble_eq_true rfl) dd_X1_dutyOfAll_12 (fun r3 => ?_)
      refine J_iadd hE dd_X1_dutyOfAll_15 ?_
      refine J_leti (fun x4 => ?_)
      refine J_istore_n hE (L' := [(1, .int x4), (0, .ref b), (2, .int v2)]) dd_X1_dutyOfAll_16 (Nat.le_of_ble_eq_true rfl) rfl rfl ?_
      refine J_iincL hE (v := (v2 + (1 : Int32))) (Lf := fun x5 => [(2, .int x5), (1, .int x4), (0, .ref b)]) dd_X1_dutyOfAll_17 (j := 2) rfl (congrArg (v2 + ·) (by decide)) (Nat.le_of_ble_eq_true rfl) (fun _ => rfl) (fun x5 => ?_)
      refine J_goto hE (tgt := 4) dd_X1_dutyOfAll_20 (by decide) ?_
      refine J_sub [2, 1, 0] rfl ?_
      exact ih x4 x5
set_option maxHeartbeats 4000000 in
set_option maxRecDepth 100000 in
theorem tX1_dutyOfAll (l : Launch) {V : JV M2} {b : Nat} {a : Nat → Nat} (hv : vX1 V b a) (S : M2)  : JC l V yX1_dutyOfAll cX1_dutyOfAll 3 (some .int) jj_i 2 [.ref b] S ((fX1_dutyOfAll  S).map (fun r => (r, S))) := by
  refine jj_of (by decide) (Nat.le_of_ble_eq_true rfl) (fun E hlE hE => ?_)
  unfold fX1_dutyOfAll
  refine J_sub (L' := [(0, .ref b)]) [0] rfl ?_
  refine J_iconst hE (v := (0 : Int32)) dd_X1_dutyOfAll_0 (by decide) ?_
  refine J_istore_n hE (L' := [(1, .int (0 : Int32)), (0, .ref b)]) dd_X1_dutyOfAll_1 (Nat.le_of_ble_eq_true rfl) rfl rfl ?_
  refine J_iconst hE (v := (0 : Int32)) dd_X1_dutyOfAll_2 (by decide) ?_
  refine J_istore_n hE (L' := [(2, .int (0 : Int32)), (1, .int (0 : Int32)), (0, .ref b)]) dd_X1_dutyOfAll_3 (Nat.le_of_ble_eq_true rfl) rfl rfl ?_
  refine J_sub [2, 1, 0] rfl ?_
  refine tX1_dutyOfAll_L4 hv S hE (fun p7 => ?_) 400 (0 : Int32) (0 : Int32)
  show J V E _ _ 23 [(1, .int p7)] [] S
  refine J_iload_n hE dd_X1_dutyOfAll_23 0 rfl rfl ?_
  exact J_iret hE dd_X1_dutyOfAll_24 rfl rfl
theorem dd_X1_holesInAll_0 : jd cX1_holesInAll 0 (.iconst 0) 1 1 := ⟨by decide +kernel, rfl⟩
theorem dd_X1_holesInAll_1 : jd cX1_holesInAll 1 (.istore_n 1) 1 2 := ⟨by decide +kernel, rfl⟩
theorem dd_X1_holesInAll_2 : jd cX1_holesInAll 2 (.iconst 0) 1 3 := ⟨by decide +kernel, rfl⟩
theorem dd_X1_holesInAll_3 : jd cX1_holesInAll 3 (.istore_n 2) 1 4 := ⟨by decide +kernel, rfl⟩
theorem dd_X1_holesInAll_4 : jd cX1_holesInAll 4 (.iload_n 2) 1 5 := ⟨by decide +kernel, rfl⟩
theorem dd_X1_holesInAll_5 : jd cX1_holesInAll 5 (.aload_n 0) 1 6 := ⟨by decide +kernel, rfl⟩
theorem dd_X1_holesInAll_6 : jd cX1_holesInAll 6 (.getfield 49) 3 9 := ⟨by decide +kernel, rfl⟩
theorem dd_X1_holesInAll_12 : jd cX1_holesInAll 12 (.iload_n 1) 1 13 := ⟨by decide +kernel, rfl⟩
theorem dd_X1_holesInAll_13 : jd cX1_holesInAll 13 (.aload_n 0) 1 14 := ⟨by decide +kernel, rfl⟩
theorem dd_X1_holesInAll_14 : jd cX1_holesInAll 14 (.getfield 18) 3 17 := ⟨by decide +kernel, rfl⟩
theorem dd_X1_holesInAll_17 : jd cX1_holesInAll 17 (.iload_n 2) 1 18 := ⟨by decide +kernel, rfl⟩
theorem dd_X1_holesInAll_18 : jd cX1_holesInAll 18 (.iaload) 1 19 := ⟨by decide +kernel, rfl⟩
theorem dd_X1_holesInAll_19 : jd cX1_holesInAll 19 (.iadd) 1 20 := ⟨by decide +kernel, rfl⟩
theorem dd_X1_holesInAll_20 : jd cX1_holesInAll 20 (.istore_n 1) 1 21 := ⟨by decide +kernel, rfl⟩
theorem dd_X1_holesInAll_21 : jd cX1_holesInAll 21 (.iinc 2 1) 3 24 := ⟨by decide +kernel, rfl⟩
theorem dd_X1_holesInAll_24 : jd cX1_holesInAll 24 (.goto (-20)) 3 27 := ⟨by decide +kernel, rfl⟩
theorem dd_X1_holesInAll_9 : jd cX1_holesInAll 9 (.if_icmp .ge 18) 3 12 := ⟨by decide +kernel, rfl⟩
theorem dd_X1_holesInAll_27 : jd cX1_holesInAll 27 (.iload_n 1) 1 28 := ⟨by decide +kernel, rfl⟩
theorem dd_X1_holesInAll_28 : jd cX1_holesInAll 28 (.ireturn) 1 29 := ⟨by decide +kernel, rfl⟩
theorem m_X1_holesInAll : jmV yX1_holesInAll cX1_holesInAll 3 (some .int) 0 := ⟨⟨(jj_m (w := Cond.code yX1_holesInAll cX1_holesInAll 3 (some .int)) (List.mem_of_getElem? (i := 609) (by decide +kernel)) rfl), (jj_m (w := Cond.initialized yX1_holesInAll.cls) (List.mem_of_getElem? (i := 66) (by decide +kernel)) rfl), ⟨by decide, by decide⟩, by decide +kernel⟩, (jj_m (w := Cond.instanceMethod yX1_holesInAll) (List.mem_of_getElem? (i := 607) (by decide +kernel)) rfl), (jj_m (w := Cond.selects yX1_holesInAll.cls yX1_holesInAll yX1_holesInAll) (List.mem_of_getElem? (i := 608) (by decide +kernel)) rfl)⟩
def fX1_holesInAll_L4 (S : M2) (k27 : Int32 → Option (Int32)) : Nat → Int32 → Int32 → Option (Int32)
  | 0, _, _ => none
  | n_ + 1, v1, v2 =>
    if (S 0 0) ≤ v2 then
      k27 v1
    else
      bnd v2 5 <|
      lt ((v1 + (S 3 v2.toNatClampNeg))) fun x3 =>
      lt (v2 + (1 : Int32)) fun x4 =>
      fX1_holesInAll_L4 S k27 n_ x3 x4

def fX1_holesInAll  (S : M2) : Option (Int32) :=
  fX1_holesInAll_L4 S
    (fun p6 =>
      some p6)
    400 (0 : Int32) (0 : Int32)

set_option maxHeartbeats 4000000 in
set_option maxRecDepth 100000 in
theorem tX1_holesInAll_L4 {V : JV M2} {b : Nat} {a : Nat → Nat} (hv : vX1 V b a) (S : M2) {E : JE (M2) Int32} (hE : JOk V E cX1_holesInAll yX1_holesInAll.cls 3 0 (some .int) jj_i) {k27 : Int32 → Option (Int32)} (hk27 : ∀ p, J V E (fun r => (r, S)) (k27 p) 27 [(1, .int p)] [] S) : ∀ (n_ : Nat) (v1 : Int32) (v2 : Int32), J V E (fun r => (r, S)) (fX1_holesInAll_L4 S k27 n_ v1 v2) 4 [(0, .ref b), (1, .int v1), (2, .int v2)] [] S := by
  intro n_
  induction n_ with
  | zero =>
    intros
    exact J_none
  | succ n_ ih =>
    intros v1 v2
    rw [fX1_holesInAll_L4]
    refine J_iload_n hE dd_X1_holesInAll_4 2 rfl rfl ?_
    refine J_aload_n hE dd_X1_holesInAll_5 0 rfl rfl ?_
    refine J_get hE (hv.ob _) jc_X1 0 (by decide) fl_RX1_49 (v := .int (S 0 0)) rfl dd_X1_holesInAll_6 ?_
    refine J_icmp_ge hE (tgt := 27) dd_X1_holesInAll_9 (by decide) (fun c5 => ?_) (fun c5 => ?_)
    · refine J_sub [1] rfl ?_
      exact hk27 v1
    · refine J_iload_n hE dd_X1_holesInAll_12 1 rfl rfl ?_
      refine J_aload_n hE dd_X1_holesInAll_13 0 rfl rfl ?_
      refine J_get hE (hv.ob _) jc_X1 3 (by decide) fl_RX1_18 (v := .ref (a 3)) rfl dd_X1_holesInAll_14 ?_
      refine J_iload_n hE dd_X1_holesInAll_17 2 rfl rfl ?_
      refine J_ald hE (hv.arr 3 (n := 5) (ty := .int) (by decide) _) dd_X1_holesInAll_18 ?_
      refine J_iadd hE dd_X1_holesInAll_19 ?_
      refine J_leti (fun x3 => ?_)
      refine J_istore_n hE (L' := [(1, .int x3), (0, .ref b), (2, .int v2)]) dd_X1_holesInAll_20 (Nat.le_of_ble_eq_true rfl) rfl rfl ?_
      refine J_iincL hE (v := (v2 + (1 : Int32))) (Lf := fun x4 => [(2, .int x4), (1, .int x3), (0, .ref b)]) dd_X1_holesInAll_21 (j := 2) rfl (congrArg (v2 + ·) (by decide)) (Nat.le_of_ble_eq_true rfl) (fun _ => rfl) (fun x4 => ?_)
      refine J_goto hE (tgt := 4) dd_X1_holesInAll_24 (by decide) ?_
      refine J_sub [2, 1, 0] rfl ?_
      exact ih x3 x4
set_option maxHeartbeats 4000000 in
set_option maxRecDepth 100000 in
theorem tX1_holesInAll (l : Launch) {V : JV M2} {b : Nat} {a : Nat → Nat} (hv : vX1 V b a) (S : M2)  : JC l V yX1_holesInAll cX1_holesInAll 3 (some .int) jj_i 0 [.ref b] S ((fX1_holesInAll  S).map (fun r => (r, S))) := by
  refine jj_of (by decide) (Nat.le_of_ble_eq_true rfl) (fun E hlE hE => ?_)
  unfold fX1_holesInAll
  refine J_sub (L' := [(0, .ref b)]) [0] rfl ?_
  refine J_iconst hE (v := (0 : Int32)) dd_X1_holesInAll_0 (by decide) ?_
  refine J_istore_n hE (L' := [(1, .int (0 : Int32)), (0, .ref b)]) dd_X1_holesInAll_1 (Nat.le_of_ble_eq_true rfl) rfl rfl ?_
  refine J_iconst hE (v := (0 : Int32)) dd_X1_holesInAll_2 (by decide) ?_
  refine J_istore_n hE (L' := [(2, .int (0 : Int32)), (1, .int (0 : Int32)), (0, .ref b)]) dd_X1_holesInAll_3 (Nat.le_of_ble_eq_true rfl) rfl rfl ?_
  refine J_sub [2, 1, 0] rfl ?_
  refine tX1_holesInAll_L4 hv S hE (fun p6 => ?_) 400 (0 : Int32) (0 : Int32)
  show J V E _ _ 27 [(1, .int p6)] [] S
  refine J_iload_n hE dd_X1_holesInAll_27 0 rfl rfl ?_
  exact J_iret hE dd_X1_holesInAll_28 rfl rfl
theorem dd_X1_isEatenUp_0 : jd cX1_isEatenUp 0 (.aload_n 0) 1 1 := ⟨by decide +kernel, rfl⟩
theorem dd_X1_isEatenUp_1 : jd cX1_isEatenUp 1 (.getfield 15) 3 4 := ⟨by decide +kernel, rfl⟩
theorem dd_X1_isEatenUp_4 : jd cX1_isEatenUp 4 (.iload_n 1) 1 5 := ⟨by decide +kernel, rfl⟩
theorem dd_X1_isEatenUp_5 : jd cX1_isEatenUp 5 (.iaload) 1 6 := ⟨by decide +kernel, rfl⟩
theorem dd_X1_isEatenUp_28 : jd cX1_isEatenUp 28 (.iconst 0) 1 29 := ⟨by decide +kernel, rfl⟩
theorem dd_X1_isEatenUp_29 : jd cX1_isEatenUp 29 (.ireturn) 1 30 := ⟨by decide +kernel, rfl⟩
theorem dd_X1_isEatenUp_9 : jd cX1_isEatenUp 9 (.aload_n 0) 1 10 := ⟨by decide +kernel, rfl⟩
theorem dd_X1_isEatenUp_10 : jd cX1_isEatenUp 10 (.getfield 18) 3 13 := ⟨by decide +kernel, rfl⟩
theorem dd_X1_isEatenUp_13 : jd cX1_isEatenUp 13 (.iload_n 1) 1 14 := ⟨by decide +kernel, rfl⟩
theorem dd_X1_isEatenUp_14 : jd cX1_isEatenUp 14 (.iaload) 1 15 := ⟨by decide +kernel, rfl⟩
theorem dd_X1_isEatenUp_15 : jd cX1_isEatenUp 15 (.aload_n 0) 1 16 := ⟨by decide +kernel, rfl⟩
theorem dd_X1_isEatenUp_16 : jd cX1_isEatenUp 16 (.getfield 15) 3 19 := ⟨by decide +kernel, rfl⟩
theorem dd_X1_isEatenUp_19 : jd cX1_isEatenUp 19 (.iload_n 1) 1 20 := ⟨by decide +kernel, rfl⟩
theorem dd_X1_isEatenUp_20 : jd cX1_isEatenUp 20 (.iaload) 1 21 := ⟨by decide +kernel, rfl⟩
theorem dd_X1_isEatenUp_24 : jd cX1_isEatenUp 24 (.iconst 1) 1 25 := ⟨by decide +kernel, rfl⟩
theorem dd_X1_isEatenUp_25 : jd cX1_isEatenUp 25 (.goto 4) 3 28 := ⟨by decide +kernel, rfl⟩
theorem dd_X1_isEatenUp_21 : jd cX1_isEatenUp 21 (.if_icmp .ne 7) 3 24 := ⟨by decide +kernel, rfl⟩
theorem dd_X1_isEatenUp_6 : jd cX1_isEatenUp 6 (.ifCond .le 22) 3 9 := ⟨by decide +kernel, rfl⟩
theorem m_X1_isEatenUp : jmV yX1_isEatenUp cX1_isEatenUp 2 (some .boolean) 1 := ⟨⟨(jj_m (w := Cond.code yX1_isEatenUp cX1_isEatenUp 2 (some .boolean)) (List.mem_of_getElem? (i := 468) (by decide +kernel)) rfl), (jj_m (w := Cond.initialized yX1_isEatenUp.cls) (List.mem_of_getElem? (i := 66) (by decide +kernel)) rfl), ⟨by decide, by decide⟩, by decide +kernel⟩, (jj_m (w := Cond.instanceMethod yX1_isEatenUp) (List.mem_of_getElem? (i := 466) (by decide +kernel)) rfl), (jj_m (w := Cond.selects yX1_isEatenUp.cls yX1_isEatenUp yX1_isEatenUp) (List.mem_of_getElem? (i := 467) (by decide +kernel)) rfl)⟩
def fX1_isEatenUp (i1 : Int32) (S : M2) : Option (Int32) :=
  bnd i1 5 <|
  if (S 2 i1.toNatClampNeg) ≤ 0 then
    some (0 : Int32)
  else
    bnd i1 5 <|
    bnd i1 5 <|
    if (S 3 i1.toNatClampNeg) = (S 2 i1.toNatClampNeg) then
      some (1 : Int32)
    else
      some (0 : Int32)

set_option maxHeartbeats 4000000 in
set_option maxRecDepth 100000 in
theorem tX1_isEatenUp (l : Launch) {V : JV M2} {b : Nat} {a : Nat → Nat} (hv : vX1 V b a) (S : M2) (i1 : Int32) : JC l V yX1_isEatenUp cX1_isEatenUp 2 (some .boolean) jj_i 0 [.ref b, .int i1] S ((fX1_isEatenUp i1 S).map (fun r => (r, S))) := by
  refine jj_of (by decide) (Nat.le_of_ble_eq_true rfl) (fun E hlE hE => ?_)
  unfold fX1_isEatenUp
  refine J_sub (L' := [(0, .ref b), (1, .int i1)]) [0, 1] rfl ?_
  refine J_aload_n hE dd_X1_isEatenUp_0 0 rfl rfl ?_
  refine J_get hE (hv.ob _) jc_X1 2 (by decide) fl_RX1_15 (v := .ref (a 2)) rfl dd_X1_isEatenUp_1 ?_
  refine J_iload_n hE dd_X1_isEatenUp_4 1 rfl rfl ?_
  refine J_ald hE (hv.arr 2 (n := 5) (ty := .int) (by decide) _) dd_X1_isEatenUp_5 ?_
  refine J_if_le hE (tgt := 28) dd_X1_isEatenUp_6 (by decide) (fun c2 => ?_) (fun c2 => ?_)
  · refine J_iconst hE (v := (0 : Int32)) dd_X1_isEatenUp_28 (by decide) ?_
    exact J_zret hE (Or.inl rfl) dd_X1_isEatenUp_29 rfl rfl
  · refine J_aload_n hE dd_X1_isEatenUp_9 0 rfl rfl ?_
    refine J_get hE (hv.ob _) jc_X1 3 (by decide) fl_RX1_18 (v := .ref (a 3)) rfl dd_X1_isEatenUp_10 ?_
    refine J_iload_n hE dd_X1_isEatenUp_13 1 rfl rfl ?_
    refine J_ald hE (hv.arr 3 (n := 5) (ty := .int) (by decide) _) dd_X1_isEatenUp_14 ?_
    refine J_aload_n hE dd_X1_isEatenUp_15 0 rfl rfl ?_
    refine J_get hE (hv.ob _) jc_X1 2 (by decide) fl_RX1_15 (v := .ref (a 2)) rfl dd_X1_isEatenUp_16 ?_
    refine J_iload_n hE dd_X1_isEatenUp_19 1 rfl rfl ?_
    refine J_ald hE (hv.arr 2 (n := 5) (ty := .int) (by decide) _) dd_X1_isEatenUp_20 ?_
    refine J_icmp_ne hE (tgt := 28) dd_X1_isEatenUp_21 (by decide) (fun c1 => ?_) (fun c1 => ?_)
    · refine J_iconst hE (v := (0 : Int32)) dd_X1_isEatenUp_28 (by decide) ?_
      exact J_zret hE (Or.inl rfl) dd_X1_isEatenUp_29 rfl rfl
    · refine J_iconst hE (v := (1 : Int32)) dd_X1_isEatenUp_24 (by decide) ?_
      refine J_goto hE (tgt := 29) dd_X1_isEatenUp_25 (by decide) ?_
      exact J_zret hE (Or.inr rfl) dd_X1_isEatenUp_29 rfl rfl
theorem dd_X1_eatenUp_0 : jd cX1_eatenUp 0 (.iconst 0) 1 1 := ⟨by decide +kernel, rfl⟩
theorem dd_X1_eatenUp_1 : jd cX1_eatenUp 1 (.istore_n 1) 1 2 := ⟨by decide +kernel, rfl⟩
theorem dd_X1_eatenUp_2 : jd cX1_eatenUp 2 (.iconst 0) 1 3 := ⟨by decide +kernel, rfl⟩
theorem dd_X1_eatenUp_3 : jd cX1_eatenUp 3 (.istore_n 2) 1 4 := ⟨by decide +kernel, rfl⟩
theorem dd_X1_eatenUp_4 : jd cX1_eatenUp 4 (.iload_n 2) 1 5 := ⟨by decide +kernel, rfl⟩
theorem dd_X1_eatenUp_5 : jd cX1_eatenUp 5 (.aload_n 0) 1 6 := ⟨by decide +kernel, rfl⟩
theorem dd_X1_eatenUp_6 : jd cX1_eatenUp 6 (.getfield 49) 3 9 := ⟨by decide +kernel, rfl⟩
theorem dd_X1_eatenUp_12 : jd cX1_eatenUp 12 (.aload_n 0) 1 13 := ⟨by decide +kernel, rfl⟩
theorem dd_X1_eatenUp_13 : jd cX1_eatenUp 13 (.iload_n 2) 1 14 := ⟨by decide +kernel, rfl⟩
theorem ml_RX1_125 : (Cond.methodLink "MothCustoms$Shed" 125 yX1_isEatenUp : Cond) ∈ jj_tb := jj_m (List.mem_of_getElem? (i := 465) (by decide +kernel)) rfl
theorem dd_X1_eatenUp_14 : jd cX1_eatenUp 14 (.invokevirtual 125) 3 17 := ⟨by decide +kernel, rfl⟩
theorem dd_X1_eatenUp_20 : jd cX1_eatenUp 20 (.iload_n 1) 1 21 := ⟨by decide +kernel, rfl⟩
theorem dd_X1_eatenUp_21 : jd cX1_eatenUp 21 (.iconst 1) 1 22 := ⟨by decide +kernel, rfl⟩
theorem dd_X1_eatenUp_22 : jd cX1_eatenUp 22 (.iload_n 2) 1 23 := ⟨by decide +kernel, rfl⟩
theorem dd_X1_eatenUp_23 : jd cX1_eatenUp 23 (.ishl) 1 24 := ⟨by decide +kernel, rfl⟩
theorem dd_X1_eatenUp_24 : jd cX1_eatenUp 24 (.ior) 1 25 := ⟨by decide +kernel, rfl⟩
theorem dd_X1_eatenUp_25 : jd cX1_eatenUp 25 (.istore_n 1) 1 26 := ⟨by decide +kernel, rfl⟩
theorem dd_X1_eatenUp_17 : jd cX1_eatenUp 17 (.ifCond .eq 9) 3 20 := ⟨by decide +kernel, rfl⟩
theorem dd_X1_eatenUp_26 : jd cX1_eatenUp 26 (.iinc 2 1) 3 29 := ⟨by decide +kernel, rfl⟩
theorem dd_X1_eatenUp_29 : jd cX1_eatenUp 29 (.goto (-25)) 3 32 := ⟨by decide +kernel, rfl⟩
theorem dd_X1_eatenUp_9 : jd cX1_eatenUp 9 (.if_icmp .ge 23) 3 12 := ⟨by decide +kernel, rfl⟩
theorem dd_X1_eatenUp_32 : jd cX1_eatenUp 32 (.iload_n 1) 1 33 := ⟨by decide +kernel, rfl⟩
theorem dd_X1_eatenUp_33 : jd cX1_eatenUp 33 (.ireturn) 1 34 := ⟨by decide +kernel, rfl⟩
theorem m_X1_eatenUp : jmV yX1_eatenUp cX1_eatenUp 3 (some .int) 0 := ⟨⟨(jj_m (w := Cond.code yX1_eatenUp cX1_eatenUp 3 (some .int)) (List.mem_of_getElem? (i := 464) (by decide +kernel)) rfl), (jj_m (w := Cond.initialized yX1_eatenUp.cls) (List.mem_of_getElem? (i := 66) (by decide +kernel)) rfl), ⟨by decide, by decide⟩, by decide +kernel⟩, (jj_m (w := Cond.instanceMethod yX1_eatenUp) (List.mem_of_getElem? (i := 462) (by decide +kernel)) rfl), (jj_m (w := Cond.selects yX1_eatenUp.cls yX1_eatenUp yX1_eatenUp) (List.mem_of_getElem? (i := 463) (by decide +kernel)) rfl)⟩
def fX1_eatenUp_L4 (S : M2) (k32 : Int32 → Option (Int32)) : Nat → Int32 → Int32 → Option (Int32)
  | 0, _, _ => none
  | n_ + 1, v1, v2 =>
    if (S 0 0) ≤ v2 then
      k32 v1
    else
      (fX1_isEatenUp v2 S).bind fun r3 =>
      jn (α := Option (Int32)) (β := Int32) (fun j4 =>
        if r3 = 0 then
          j4 v1
        else
          lt ((v1 ||| ((1 : Int32) <<< (v2 &&& 31)))) fun x5 =>
          j4 x5) (fun p7 => 
        lt (v2 + (1 : Int32)) fun x8 =>
        fX1_eatenUp_L4 S k32 n_ p7 x8)

def fX1_eatenUp  (S : M2) : Option (Int32) :=
  fX1_eatenUp_L4 S
    (fun p10 =>
      some p10)
    400 (0 : Int32) (0 : Int32)

set_option maxHeartbeats 4000000 in
set_option maxRecDepth 100000 in
theorem tX1_eatenUp_L4 {V : JV M2} {b : Nat} {a : Nat → Nat} (hv : vX1 V b a) (S : M2) {E : JE (M2) Int32} (hE : JOk V E cX1_eatenUp yX1_eatenUp.cls 3 1 (some .int) jj_i) {k32 : Int32 → Option (Int32)} (hk32 : ∀ p, J V E (fun r => (r, S)) (k32 p) 32 [(1, .int p)] [] S) : ∀ (n_ : Nat) (v1 : Int32) (v2 : Int32), J V E (fun r => (r, S)) (fX1_eatenUp_L4 S k32 n_ v1 v2) 4 [(0, .ref b), (1, .int v1), (2, .int v2)] [] S := by
  intro n_
  induction n_ with
  | zero =>
    intros
    exact J_none
  | succ n_ ih =>
    intros v1 v2
    rw [fX1_eatenUp_L4]
    refine J_iload_n hE dd_X1_eatenUp_4 2 rfl rfl ?_
    refine J_aload_n hE dd_X1_eatenUp_5 0 rfl rfl ?_
    refine J_get hE (hv.ob _) jc_X1 0 (by decide) fl_RX1_49 (v := .int (S 0 0)) rfl dd_X1_eatenUp_6 ?_
    refine J_icmp_ge hE (tgt := 32) dd_X1_eatenUp_9 (by decide) (fun c9 => ?_) (fun c9 => ?_)
    · refine J_sub [1] rfl ?_
      exact hk32 v1
    · refine J_aload_n hE dd_X1_eatenUp_12 0 rfl rfl ?_
      refine J_iload_n hE dd_X1_eatenUp_13 2 rfl rfl ?_
      refine J_invVri hE (As := [.int v2]) (st := []) (tX1_isEatenUp E.2.1 hv S v2) (hv.ob _) m_X1_isEatenUp rfl ml_RX1_125 (Nat.le_of_ble_eq_true rfl) (Nat.le_of_ble_eq_true rfl) rfl (Nat.le_of_ble_eq_true rfl) dd_X1_eatenUp_14 (fun r3 => ?_)
      refine J_jn (m := 26) (Lf := fun p7 => [(0, .ref b), (1, .int p7), (2, .int v2)]) (sf := fun p7 => []) (Xf := fun p7 => S) (fun p7 => ?_) (fun hj4 => ?_)
      · show J V E _ _ 26 [(0, .ref b), (1, .int p7), (2, .int v2)] [] S
        refine J_iincL hE (v := (v2 + (1 : Int32))) (Lf := fun x8 => [(2, .int x8), (0, .ref b), (1, .int p7)]) dd_X1_eatenUp_26 (j := 2) rfl (congrArg (v2 + ·) (by decide)) (Nat.le_of_ble_eq_true rfl) (fun _ => rfl) (fun x8 => ?_)
        refine J_goto hE (tgt := 4) dd_X1_eatenUp_29 (by decide) ?_
        refine J_sub [1, 2, 0] rfl ?_
        exact ih p7 x8
      · refine J_if_eq hE (tgt := 26) dd_X1_eatenUp_17 (by decide) (fun c6 => ?_) (fun c6 => ?_)
        · refine J_sub [0, 1, 2] rfl ?_
          exact hj4 v1
        · refine J_iload_n hE dd_X1_eatenUp_20 1 rfl rfl ?_
          refine J_iconst hE (v := (1 : Int32)) dd_X1_eatenUp_21 (by decide) ?_
          refine J_iload_n hE dd_X1_eatenUp_22 2 rfl rfl ?_
          refine J_ishl hE dd_X1_eatenUp_23 ?_
          refine J_ior hE dd_X1_eatenUp_24 ?_
          refine J_leti (fun x5 => ?_)
          refine J_istore_n hE (L' := [(1, .int x5), (0, .ref b), (2, .int v2)]) dd_X1_eatenUp_25 (Nat.le_of_ble_eq_true rfl) rfl rfl ?_
          refine J_sub [1, 0, 2] rfl ?_
          exact hj4 x5
set_option maxHeartbeats 4000000 in
set_option maxRecDepth 100000 in
theorem tX1_eatenUp (l : Launch) {V : JV M2} {b : Nat} {a : Nat → Nat} (hv : vX1 V b a) (S : M2)  : JC l V yX1_eatenUp cX1_eatenUp 3 (some .int) jj_i 1 [.ref b] S ((fX1_eatenUp  S).map (fun r => (r, S))) := by
  refine jj_of (by decide) (Nat.le_of_ble_eq_true rfl) (fun E hlE hE => ?_)
  unfold fX1_eatenUp
  refine J_sub (L' := [(0, .ref b)]) [0] rfl ?_
  refine J_iconst hE (v := (0 : Int32)) dd_X1_eatenUp_0 (by decide) ?_
  refine J_istore_n hE (L' := [(1, .int (0 : Int32)), (0, .ref b)]) dd_X1_eatenUp_1 (Nat.le_of_ble_eq_true rfl) rfl rfl ?_
  refine J_iconst hE (v := (0 : Int32)) dd_X1_eatenUp_2 (by decide) ?_
  refine J_istore_n hE (L' := [(2, .int (0 : Int32)), (1, .int (0 : Int32)), (0, .ref b)]) dd_X1_eatenUp_3 (Nat.le_of_ble_eq_true rfl) rfl rfl ?_
  refine J_sub [2, 1, 0] rfl ?_
  refine tX1_eatenUp_L4 hv S hE (fun p10 => ?_) 400 (0 : Int32) (0 : Int32)
  show J V E _ _ 32 [(1, .int p10)] [] S
  refine J_iload_n hE dd_X1_eatenUp_32 0 rfl rfl ?_
  exact J_iret hE dd_X1_eatenUp_33 rfl rfl
theorem dd_X1_isAsSeen_0 : jd cX1_isAsSeen 0 (.iconst 0) 1 1 := ⟨by decide +kernel, rfl⟩
theorem dd_X1_isAsSeen_1 : jd cX1_isAsSeen 1 (.istore_n 2) 1 2 := ⟨by decide +kernel, rfl⟩
theorem dd_X1_isAsSeen_2 : jd cX1_isAsSeen 2 (.iload_n 2) 1 3 := ⟨by decide +kernel, rfl⟩
theorem dd_X1_isAsSeen_3 : jd cX1_isAsSeen 3 (.aload_n 0) 1 4 := ⟨by decide +kernel, rfl⟩
theorem dd_X1_isAsSeen_4 : jd cX1_isAsSeen 4 (.getfield 64) 3 7 := ⟨by decide +kernel, rfl⟩
theorem dd_X1_isAsSeen_10 : jd cX1_isAsSeen 10 (.aload_n 0) 1 11 := ⟨by decide +kernel, rfl⟩
theorem dd_X1_isAsSeen_11 : jd cX1_isAsSeen 11 (.getfield 43) 3 14 := ⟨by decide +kernel, rfl⟩
theorem dd_X1_isAsSeen_14 : jd cX1_isAsSeen 14 (.iload_n 2) 1 15 := ⟨by decide +kernel, rfl⟩
theorem dd_X1_isAsSeen_15 : jd cX1_isAsSeen 15 (.iaload) 1 16 := ⟨by decide +kernel, rfl⟩
theorem dd_X1_isAsSeen_16 : jd cX1_isAsSeen 16 (.istore_n 3) 1 17 := ⟨by decide +kernel, rfl⟩
theorem dd_X1_isAsSeen_17 : jd cX1_isAsSeen 17 (.iload_n 1) 1 18 := ⟨by decide +kernel, rfl⟩
theorem dd_X1_isAsSeen_18 : jd cX1_isAsSeen 18 (.iload_n 3) 1 19 := ⟨by decide +kernel, rfl⟩
theorem dd_X1_isAsSeen_19 : jd cX1_isAsSeen 19 (.ishr) 1 20 := ⟨by decide +kernel, rfl⟩
theorem dd_X1_isAsSeen_20 : jd cX1_isAsSeen 20 (.iconst 1) 1 21 := ⟨by decide +kernel, rfl⟩
theorem dd_X1_isAsSeen_21 : jd cX1_isAsSeen 21 (.iand) 1 22 := ⟨by decide +kernel, rfl⟩
theorem dd_X1_isAsSeen_22 : jd cX1_isAsSeen 22 (.iconst 1) 1 23 := ⟨by decide +kernel, rfl⟩
theorem dd_X1_isAsSeen_26 : jd cX1_isAsSeen 26 (.aload_n 0) 1 27 := ⟨by decide +kernel, rfl⟩
theorem dd_X1_isAsSeen_27 : jd cX1_isAsSeen 27 (.getfield 18) 3 30 := ⟨by decide +kernel, rfl⟩
theorem dd_X1_isAsSeen_30 : jd cX1_isAsSeen 30 (.iload_n 3) 1 31 := ⟨by decide +kernel, rfl⟩
theorem dd_X1_isAsSeen_31 : jd cX1_isAsSeen 31 (.iaload) 1 32 := ⟨by decide +kernel, rfl⟩
theorem dd_X1_isAsSeen_32 : jd cX1_isAsSeen 32 (.aload_n 0) 1 33 := ⟨by decide +kernel, rfl⟩
theorem dd_X1_isAsSeen_33 : jd cX1_isAsSeen 33 (.getfield 15) 3 36 := ⟨by decide +kernel, rfl⟩
theorem dd_X1_isAsSeen_36 : jd cX1_isAsSeen 36 (.iload_n 3) 1 37 := ⟨by decide +kernel, rfl⟩
theorem dd_X1_isAsSeen_37 : jd cX1_isAsSeen 37 (.iaload) 1 38 := ⟨by decide +kernel, rfl⟩
theorem dd_X1_isAsSeen_41 : jd cX1_isAsSeen 41 (.iconst 1) 1 42 := ⟨by decide +kernel, rfl⟩
theorem dd_X1_isAsSeen_42 : jd cX1_isAsSeen 42 (.goto 4) 3 45 := ⟨by decide +kernel, rfl⟩
theorem dd_X1_isAsSeen_38 : jd cX1_isAsSeen 38 (.if_icmp .ge 7) 3 41 := ⟨by decide +kernel, rfl⟩
theorem dd_X1_isAsSeen_23 : jd cX1_isAsSeen 23 (.if_icmp .ne 22) 3 26 := ⟨by decide +kernel, rfl⟩
theorem dd_X1_isAsSeen_45 : jd cX1_isAsSeen 45 (.iconst 0) 1 46 := ⟨by decide +kernel, rfl⟩
theorem dd_X1_isAsSeen_46 : jd cX1_isAsSeen 46 (.istore 4) 2 48 := ⟨by decide +kernel, rfl⟩
theorem dd_X1_isAsSeen_48 : jd cX1_isAsSeen 48 (.aload_n 0) 1 49 := ⟨by decide +kernel, rfl⟩
theorem dd_X1_isAsSeen_49 : jd cX1_isAsSeen 49 (.getfield 18) 3 52 := ⟨by decide +kernel, rfl⟩
theorem dd_X1_isAsSeen_52 : jd cX1_isAsSeen 52 (.iload_n 3) 1 53 := ⟨by decide +kernel, rfl⟩
theorem dd_X1_isAsSeen_53 : jd cX1_isAsSeen 53 (.iaload) 1 54 := ⟨by decide +kernel, rfl⟩
theorem dd_X1_isAsSeen_54 : jd cX1_isAsSeen 54 (.iload 4) 2 56 := ⟨by decide +kernel, rfl⟩
theorem dd_X1_isAsSeen_56 : jd cX1_isAsSeen 56 (.iadd) 1 57 := ⟨by decide +kernel, rfl⟩
theorem dd_X1_isAsSeen_57 : jd cX1_isAsSeen 57 (.aload_n 0) 1 58 := ⟨by decide +kernel, rfl⟩
theorem dd_X1_isAsSeen_58 : jd cX1_isAsSeen 58 (.getfield 46) 3 61 := ⟨by decide +kernel, rfl⟩
theorem dd_X1_isAsSeen_61 : jd cX1_isAsSeen 61 (.iload_n 2) 1 62 := ⟨by decide +kernel, rfl⟩
theorem dd_X1_isAsSeen_62 : jd cX1_isAsSeen 62 (.iaload) 1 63 := ⟨by decide +kernel, rfl⟩
theorem dd_X1_isAsSeen_68 : jd cX1_isAsSeen 68 (.iinc 2 1) 3 71 := ⟨by decide +kernel, rfl⟩
theorem dd_X1_isAsSeen_71 : jd cX1_isAsSeen 71 (.goto (-69)) 3 74 := ⟨by decide +kernel, rfl⟩
theorem dd_X1_isAsSeen_66 : jd cX1_isAsSeen 66 (.iconst 0) 1 67 := ⟨by decide +kernel, rfl⟩
theorem dd_X1_isAsSeen_67 : jd cX1_isAsSeen 67 (.ireturn) 1 68 := ⟨by decide +kernel, rfl⟩
theorem dd_X1_isAsSeen_63 : jd cX1_isAsSeen 63 (.if_icmp .eq 5) 3 66 := ⟨by decide +kernel, rfl⟩
theorem dd_X1_isAsSeen_7 : jd cX1_isAsSeen 7 (.if_icmp .ge 67) 3 10 := ⟨by decide +kernel, rfl⟩
theorem dd_X1_isAsSeen_74 : jd cX1_isAsSeen 74 (.iconst 1) 1 75 := ⟨by decide +kernel, rfl⟩
theorem dd_X1_isAsSeen_75 : jd cX1_isAsSeen 75 (.ireturn) 1 76 := ⟨by decide +kernel, rfl⟩
theorem m_X1_isAsSeen : jmV yX1_isAsSeen cX1_isAsSeen 5 (some .boolean) 1 := ⟨⟨(jj_m (w := Cond.code yX1_isAsSeen cX1_isAsSeen 5 (some .boolean)) (List.mem_of_getElem? (i := 700) (by decide +kernel)) rfl), (jj_m (w := Cond.initialized yX1_isAsSeen.cls) (List.mem_of_getElem? (i := 66) (by decide +kernel)) rfl), ⟨by decide, by decide⟩, by decide +kernel⟩, (jj_m (w := Cond.instanceMethod yX1_isAsSeen) (List.mem_of_getElem? (i := 698) (by decide +kernel)) rfl), (jj_m (w := Cond.selects yX1_isAsSeen.cls yX1_isAsSeen yX1_isAsSeen) (List.mem_of_getElem? (i := 699) (by decide +kernel)) rfl)⟩
def fX1_isAsSeen_L2 (S : M2) (i1 : Int32) (k74 : Unit → Option (Int32)) : Nat → Int32 → Option (Int32)
  | 0, _ => none
  | n_ + 1, v1 =>
    if (S 15 0) ≤ v1 then
      k74 ()
    else
      bnd v1 6 <|
      lt ((S 16 v1.toNatClampNeg)) fun x2 =>
      jn (α := Option (Int32)) (β := Int32) (fun j4 =>
        jn (α := Option (Int32)) (β := Unit) (fun j3 =>
          if ((i1 >>> (x2 &&& 31)) &&& (1 : Int32)) = (1 : Int32) then
            bnd x2 5 <|
            bnd x2 5 <|
            if (S 2 x2.toNatClampNeg) ≤ (S 3 x2.toNatClampNeg) then
              j3 ()
            else
              j4 (1 : Int32)
          else
            j3 ()) (fun _ => 
          j4 (0 : Int32))) (fun p8 => 
        bnd x2 5 <|
        bnd v1 6 <|
        if ((S 3 x2.toNatClampNeg) + p8) = (S 17 v1.toNatClampNeg) then
          lt (v1 + (1 : Int32)) fun x9 =>
          fX1_isAsSeen_L2 S i1 k74 n_ x9
        else
          some (0 : Int32))

def fX1_isAsSeen (i1 : Int32) (S : M2) : Option (Int32) :=
  fX1_isAsSeen_L2 S i1
    (fun _ =>
      some (1 : Int32))
    400 (0 : Int32)

set_option maxHeartbeats 4000000 in
set_option maxRecDepth 100000 in
theorem tX1_isAsSeen_L2 {V : JV M2} {b : Nat} {a : Nat → Nat} (hv : vX1 V b a) (S : M2) (i1 : Int32) {E : JE (M2) Int32} (hE : JOk V E cX1_isAsSeen yX1_isAsSeen.cls 5 0 (some .boolean) jj_i) {k74 : Unit → Option (Int32)} (hk74 : ∀ p, J V E (fun r => (r, S)) (k74 p) 74 [] [] S) : ∀ (n_ : Nat) (v1 : Int32), J V E (fun r => (r, S)) (fX1_isAsSeen_L2 S i1 k74 n_ v1) 2 [(0, .ref b), (1, .int i1), (2, .int v1)] [] S := by
  intro n_
  induction n_ with
  | zero =>
    intros
    exact J_none
  | succ n_ ih =>
    intros v1
    rw [fX1_isAsSeen_L2]
    refine J_iload_n hE dd_X1_isAsSeen_2 2 rfl rfl ?_
    refine J_aload_n hE dd_X1_isAsSeen_3 0 rfl rfl ?_
    refine J_get hE (hv.ob _) jc_X1 15 (by decide) fl_RX1_64 (v := .int (S 15 0)) rfl dd_X1_isAsSeen_4 ?_
    refine J_icmp_ge hE (tgt := 74) dd_X1_isAsSeen_7 (by decide) (fun c11 => ?_) (fun c11 => ?_)
    · refine J_sub [] rfl ?_
      exact hk74 ()
    · refine J_aload_n hE dd_X1_isAsSeen_10 0 rfl rfl ?_
      refine J_get hE (hv.ob _) jc_X1 16 (by decide) fl_RX1_43 (v := .ref (a 16)) rfl dd_X1_isAsSeen_11 ?_
      refine J_iload_n hE dd_X1_isAsSeen_14 2 rfl rfl ?_
      refine J_ald hE (hv.arr 16 (n := 6) (ty := .int) (by decide) _) dd_X1_isAsSeen_15 ?_
      refine J_leti (fun x2 => ?_)
      refine J_istore_n hE (L' := [(3, .int x2), (0, .ref b), (1, .int i1), (2, .int v1)]) dd_X1_isAsSeen_16 (Nat.le_of_ble_eq_true rfl) rfl rfl ?_
      refine J_iload_n hE dd_X1_isAsSeen_17 2 rfl rfl ?_
      refine J_iload_n hE dd_X1_isAsSeen_18 0 rfl rfl ?_
      refine J_ishr hE dd_X1_isAsSeen_19 ?_
      refine J_iconst hE (v := (1 : Int32)) dd_X1_isAsSeen_20 (by decide) ?_
      refine J_iand hE dd_X1_isAsSeen_21 ?_
      refine J_iconst hE (v := (1 : Int32)) dd_X1_isAsSeen_22 (by decide) ?_
      refine J_jn (m := 46) (Lf := fun p8 => [(0, .ref b), (1, .int i1), (2, .int v1), (3, .int x2)]) (sf := fun p8 => [.int p8]) (Xf := fun p8 => S) (fun p8 => ?_) (fun hj4 => ?_)
      · show J V E _ _ 46 [(0, .ref b), (1, .int i1), (2, .int v1), (3, .int x2)] [.int p8] S
        refine J_istore hE (L' := [(4, .int p8), (0, .ref b), (1, .int i1), (2, .int v1), (3, .int x2)]) dd_X1_isAsSeen_46 (Nat.le_of_ble_eq_true rfl) rfl ?_
        refine J_aload_n hE dd_X1_isAsSeen_48 1 rfl rfl ?_
        refine J_get hE (hv.ob _) jc_X1 3 (by decide) fl_RX1_18 (v := .ref (a 3)) rfl dd_X1_isAsSeen_49 ?_
        refine J_iload_n hE dd_X1_isAsSeen_52 4 rfl rfl ?_
        refine J_ald hE (hv.arr 3 (n := 5) (ty := .int) (by decide) _) dd_X1_isAsSeen_53 ?_
        refine J_iload hE dd_X1_isAsSeen_54 0 rfl ?_
        refine J_iadd hE dd_X1_isAsSeen_56 ?_
        refine J_aload_n hE dd_X1_isAsSeen_57 1 rfl rfl ?_
        refine J_get hE (hv.ob _) jc_X1 17 (by decide) fl_RX1_46 (v := .ref (a 17)) rfl dd_X1_isAsSeen_58 ?_
        refine J_iload_n hE dd_X1_isAsSeen_61 3 rfl rfl ?_
        refine J_ald hE (hv.arr 17 (n := 6) (ty := .int) (by decide) _) dd_X1_isAsSeen_62 ?_
        refine J_icmp_eq hE (tgt := 68) dd_X1_isAsSeen_63 (by decide) (fun c10 => ?_) (fun c10 => ?_)
        · refine J_iincL hE (v := (v1 + (1 : Int32))) (Lf := fun x9 => [(2, .int x9), (4, .int p8), (0, .ref b), (1, .int i1), (3, .int x2)]) dd_X1_isAsSeen_68 (j := 3) rfl (congrArg (v1 + ·) (by decide)) (Nat.le_of_ble_eq_true rfl) (fun _ => rfl) (fun x9 => ?_)
          refine J_goto hE (tgt := 2) dd_X1_isAsSeen_71 (by decide) ?_
          refine J_sub [2, 3, 0] rfl ?_
          exact ih x9
        · refine J_iconst hE (v := (0 : Int32)) dd_X1_isAsSeen_66 (by decide) ?_
          exact J_zret hE (Or.inl rfl) dd_X1_isAsSeen_67 rfl rfl
      · refine J_jn (m := 45) (Lf := fun _ => [(0, .ref b), (1, .int i1), (2, .int v1), (3, .int x2)]) (sf := fun _ => []) (Xf := fun _ => S) (fun _ => ?_) (fun hj3 => ?_)
        · show J V E _ _ 45 [(0, .ref b), (1, .int i1), (2, .int v1), (3, .int x2)] [] S
          refine J_iconst hE (v := (0 : Int32)) dd_X1_isAsSeen_45 (by decide) ?_
          refine J_sub [0, 1, 2, 3] rfl ?_
          exact hj4 (0 : Int32)
        · refine J_icmp_ne hE (tgt := 45) dd_X1_isAsSeen_23 (by decide) (fun c6 => ?_) (fun c6 => ?_)
          · refine J_sub [1, 2, 3, 0] rfl ?_
            exact hj3 ()
          · refine J_aload_n hE dd_X1_isAsSeen_26 1 rfl rfl ?_
            refine J_get hE (hv.ob _) jc_X1 3 (by decide) fl_RX1_18 (v := .ref (a 3)) rfl dd_X1_isAsSeen_27 ?_
            refine J_iload_n hE dd_X1_isAsSeen_30 0 rfl rfl ?_
            refine J_ald hE (hv.arr 3 (n := 5) (ty := .int) (by decide) _) dd_X1_isAsSeen_31 ?_
            refine J_aload_n hE dd_X1_isAsSeen_32 1 rfl rfl ?_
            refine J_get hE (hv.ob _) jc_X1 2 (by decide) fl_RX1_15 (v := .ref (a 2)) rfl dd_X1_isAsSeen_33 ?_
            refine J_iload_n hE dd_X1_isAsSeen_36 0 rfl rfl ?_
            refine J_ald hE (hv.arr 2 (n := 5) (ty := .int) (by decide) _) dd_X1_isAsSeen_37 ?_
            refine J_icmp_ge hE (tgt := 45) dd_X1_isAsSeen_38 (by decide) (fun c5 => ?_) (fun c5 => ?_)
            · refine J_sub [1, 2, 3, 0] rfl ?_
              exact hj3 ()
            · refine J_iconst hE (v := (1 : Int32)) dd_X1_isAsSeen_41 (by decide) ?_
              refine J_goto hE (tgt := 46) dd_X1_isAsSeen_42 (by decide) ?_
              refine J_sub [1, 2, 3, 0] rfl ?_
              exact hj4 (1 : Int32)
set_option maxHeartbeats 4000000 in
set_option maxRecDepth 100000 in
theorem tX1_isAsSeen (l : Launch) {V : JV M2} {b : Nat} {a : Nat → Nat} (hv : vX1 V b a) (S : M2) (i1 : Int32) : JC l V yX1_isAsSeen cX1_isAsSeen 5 (some .boolean) jj_i 0 [.ref b, .int i1] S ((fX1_isAsSeen i1 S).map (fun r => (r, S))) := by
  refine jj_of (by decide) (Nat.le_of_ble_eq_true rfl) (fun E hlE hE => ?_)
  unfold fX1_isAsSeen
  refine J_sub (L' := [(0, .ref b), (1, .int i1)]) [0, 1] rfl ?_
  refine J_iconst hE (v := (0 : Int32)) dd_X1_isAsSeen_0 (by decide) ?_
  refine J_istore_n hE (L' := [(2, .int (0 : Int32)), (0, .ref b), (1, .int i1)]) dd_X1_isAsSeen_1 (Nat.le_of_ble_eq_true rfl) rfl rfl ?_
  refine J_sub [1, 2, 0] rfl ?_
  refine tX1_isAsSeen_L2 hv S i1 hE (fun _ => ?_) 400 (0 : Int32)
  show J V E _ _ 74 [] [] S
  refine J_iconst hE (v := (1 : Int32)) dd_X1_isAsSeen_74 (by decide) ?_
  exact J_zret hE (Or.inr rfl) dd_X1_isAsSeen_75 rfl rfl
end
section
theorem dd_X2_makeNew_0 : jd cX2_makeNew 0 (.aload_n 0) 1 1 := ⟨by decide +kernel, rfl⟩
theorem dd_X2_makeNew_1 : jd cX2_makeNew 1 (.iconst 1) 1 2 := ⟨by decide +kernel, rfl⟩
theorem fl_RX2_15 : (Cond.fieldLink "MothCustoms$Sheet" 15 "MothCustoms$Sheet" "there" "Z" : Cond) ∈ jj_tb := jj_m (List.mem_of_getElem? (i := 223) (by decide +kernel)) rfl
theorem dd_X2_makeNew_2 : jd cX2_makeNew 2 (.putfield 15) 3 5 := ⟨by decide +kernel, rfl⟩
theorem dd_X2_makeNew_5 : jd cX2_makeNew 5 (.aload_n 0) 1 6 := ⟨by decide +kernel, rfl⟩
theorem dd_X2_makeNew_6 : jd cX2_makeNew 6 (.iload_n 1) 1 7 := ⟨by decide +kernel, rfl⟩
theorem fl_RX2_19 : (Cond.fieldLink "MothCustoms$Sheet" 19 "MothCustoms$Sheet" "lane" "I" : Cond) ∈ jj_tb := jj_m (List.mem_of_getElem? (i := 225) (by decide +kernel)) rfl
theorem dd_X2_makeNew_7 : jd cX2_makeNew 7 (.putfield 19) 3 10 := ⟨by decide +kernel, rfl⟩
theorem dd_X2_makeNew_10 : jd cX2_makeNew 10 (.aload_n 0) 1 11 := ⟨by decide +kernel, rfl⟩
theorem dd_X2_makeNew_11 : jd cX2_makeNew 11 (.iload_n 2) 1 12 := ⟨by decide +kernel, rfl⟩
theorem fl_RX2_23 : (Cond.fieldLink "MothCustoms$Sheet" 23 "MothCustoms$Sheet" "size" "I" : Cond) ∈ jj_tb := jj_m (List.mem_of_getElem? (i := 226) (by decide +kernel)) rfl
theorem dd_X2_makeNew_12 : jd cX2_makeNew 12 (.putfield 23) 3 15 := ⟨by decide +kernel, rfl⟩
theorem dd_X2_makeNew_15 : jd cX2_makeNew 15 (.iconst 0) 1 16 := ⟨by decide +kernel, rfl⟩
theorem dd_X2_makeNew_16 : jd cX2_makeNew 16 (.istore_n 3) 1 17 := ⟨by decide +kernel, rfl⟩
theorem dd_X2_makeNew_17 : jd cX2_makeNew 17 (.iload_n 3) 1 18 := ⟨by decide +kernel, rfl⟩
theorem dd_X2_makeNew_18 : jd cX2_makeNew 18 (.bipush 40) 2 20 := ⟨by decide +kernel, rfl⟩
theorem dd_X2_makeNew_23 : jd cX2_makeNew 23 (.aload_n 0) 1 24 := ⟨by decide +kernel, rfl⟩
theorem fl_RX2_9 : (Cond.fieldLink "MothCustoms$Sheet" 9 "MothCustoms$Sheet" "cells" "[I" : Cond) ∈ jj_tb := jj_m (List.mem_of_getElem? (i := 228) (by decide +kernel)) rfl
theorem dd_X2_makeNew_24 : jd cX2_makeNew 24 (.getfield 9) 3 27 := ⟨by decide +kernel, rfl⟩
theorem dd_X2_makeNew_27 : jd cX2_makeNew 27 (.iload_n 3) 1 28 := ⟨by decide +kernel, rfl⟩
theorem dd_X2_makeNew_28 : jd cX2_makeNew 28 (.iconst 0) 1 29 := ⟨by decide +kernel, rfl⟩
theorem dd_X2_makeNew_29 : jd cX2_makeNew 29 (.iastore) 1 30 := ⟨by decide +kernel, rfl⟩
theorem dd_X2_makeNew_30 : jd cX2_makeNew 30 (.iinc 3 1) 3 33 := ⟨by decide +kernel, rfl⟩
theorem dd_X2_makeNew_33 : jd cX2_makeNew 33 (.goto (-16)) 3 36 := ⟨by decide +kernel, rfl⟩
theorem dd_X2_makeNew_20 : jd cX2_makeNew 20 (.if_icmp .ge 16) 3 23 := ⟨by decide +kernel, rfl⟩
theorem dd_X2_makeNew_36 : jd cX2_makeNew 36 (.return_) 1 37 := ⟨by decide +kernel, rfl⟩
theorem m_X2_makeNew : jmV yX2_makeNew cX2_makeNew 4 none 2 := ⟨⟨(jj_m (w := Cond.code yX2_makeNew cX2_makeNew 4 none) (List.mem_of_getElem? (i := 750) (by decide +kernel)) rfl), (jj_m (w := Cond.initialized yX2_makeNew.cls) (List.mem_of_getElem? (i := 67) (by decide +kernel)) rfl), ⟨by decide, by decide⟩, by decide +kernel⟩, (jj_m (w := Cond.instanceMethod yX2_makeNew) (List.mem_of_getElem? (i := 748) (by decide +kernel)) rfl), (jj_m (w := Cond.selects yX2_makeNew.cls yX2_makeNew yX2_makeNew) (List.mem_of_getElem? (i := 749) (by decide +kernel)) rfl)⟩
def fX2_makeNew_L17  (k36 : M2 → Option (M2)) : Nat → Int32 → M2 → Option (M2)
  | 0, _, _ => none
  | n_ + 1, v4, S5 =>
    if (40 : Int32) ≤ v4 then
      k36 S5
    else
      bnd v4 40 <|
      lt (va_up S5 3 (upd (S5 3) v4.toNatClampNeg (0 : Int32))) fun S6 =>
      lt (v4 + (1 : Int32)) fun x7 =>
      fX2_makeNew_L17 k36 n_ x7 S6

def fX2_makeNew (i1 : Int32) (i2 : Int32) (S : M2) : Option (M2) :=
  lt (va_up S 0 (fun _ => (1 : Int32))) fun S1 =>
  lt (va_up S1 1 (fun _ => i1)) fun S2 =>
  lt (va_up S2 2 (fun _ => i2)) fun S3 =>
  fX2_makeNew_L17 
    (fun p9 =>
      some p9)
    400 (0 : Int32) S3

set_option maxHeartbeats 4000000 in
set_option maxRecDepth 100000 in
theorem tX2_makeNew_L17 {V : JV M2} {b : Nat} {a : Nat → Nat} (hv : vX2 V b a)  {E : JE (M2) Unit} (hE : JOk V E cX2_makeNew yX2_makeNew.cls 4 0 none jj_v) {k36 : M2 → Option (M2)} (hk36 : ∀ p, J V E (fun q => ((), q)) (k36 p) 36 [] [] p) : ∀ (n_ : Nat) (v4 : Int32) (S5 : M2), J V E (fun q => ((), q)) (fX2_makeNew_L17 k36 n_ v4 S5) 17 [(0, .ref b), (3, .int v4)] [] S5 := by
  intro n_
  induction n_ with
  | zero =>
    intros
    exact J_none
  | succ n_ ih =>
    intros v4 S5
    rw [fX2_makeNew_L17]
    refine J_iload_n hE dd_X2_makeNew_17 1 rfl rfl ?_
    refine J_bipush hE (v := (40 : Int32)) dd_X2_makeNew_18 (by decide) ?_
    refine J_icmp_ge hE (tgt := 36) dd_X2_makeNew_20 (by decide) (fun c8 => ?_) (fun c8 => ?_)
    · refine J_sub [] rfl ?_
      exact hk36 S5
    · refine J_aload_n hE dd_X2_makeNew_23 0 rfl rfl ?_
      refine J_get hE (hv.ob _) jc_X2 3 (by decide) fl_RX2_9 (v := .ref (a 3)) rfl dd_X2_makeNew_24 ?_
      refine J_iload_n hE dd_X2_makeNew_27 1 rfl rfl ?_
      refine J_iconst hE (v := (0 : Int32)) dd_X2_makeNew_28 (by decide) ?_
      refine J_ast hE hv 3 (N := 40) (by decide) dd_X2_makeNew_29 ?_
      refine J_letS (fun S6 => ?_)
      refine J_iincL hE (v := (v4 + (1 : Int32))) (Lf := fun x7 => [(3, .int x7), (0, .ref b)]) dd_X2_makeNew_30 (j := 1) rfl (congrArg (v4 + ·) (by decide)) (Nat.le_of_ble_eq_true rfl) (fun _ => rfl) (fun x7 => ?_)
      refine J_goto hE (tgt := 17) dd_X2_makeNew_33 (by decide) ?_
      refine J_sub [1, 0] rfl ?_
      exact ih x7 S6
set_option maxHeartbeats 4000000 in
set_option maxRecDepth 100000 in
theorem tX2_makeNew (l : Launch) {V : JV M2} {b : Nat} {a : Nat → Nat} (hv : vX2 V b a) (S : M2) (i1 : Int32) (i2 : Int32) : JC l V yX2_makeNew cX2_makeNew 4 none jj_v 0 [.ref b, .int i1, .int i2] S ((fX2_makeNew i1 i2 S).map (fun q => ((), q))) := by
  refine jj_of (by decide) (Nat.le_of_ble_eq_true rfl) (fun E hlE hE => ?_)
  unfold fX2_makeNew
  refine J_sub (L' := [(0, .ref b), (1, .int i1), (2, .int i2)]) [0, 1, 2] rfl ?_
  refine J_aload_n hE dd_X2_makeNew_0 0 rfl rfl ?_
  refine J_iconst hE (v := (1 : Int32)) dd_X2_makeNew_1 (by decide) ?_
  refine J_put hE hv jc_X2 0 (by decide) (by decide) fl_RX2_15 rfl rfl rfl (Nat.le_of_ble_eq_true rfl) dd_X2_makeNew_2 ?_
  refine J_letS (fun S1 => ?_)
  refine J_aload_n hE dd_X2_makeNew_5 0 rfl rfl ?_
  refine J_iload_n hE dd_X2_makeNew_6 1 rfl rfl ?_
  refine J_put hE hv jc_X2 1 (by decide) (by decide) fl_RX2_19 rfl rfl rfl (Nat.le_of_ble_eq_true rfl) dd_X2_makeNew_7 ?_
  refine J_letS (fun S2 => ?_)
  refine J_aload_n hE dd_X2_makeNew_10 0 rfl rfl ?_
  refine J_iload_n hE dd_X2_makeNew_11 2 rfl rfl ?_
  refine J_put hE hv jc_X2 2 (by decide) (by decide) fl_RX2_23 rfl rfl rfl (Nat.le_of_ble_eq_true rfl) dd_X2_makeNew_12 ?_
  refine J_letS (fun S3 => ?_)
  refine J_iconst hE (v := (0 : Int32)) dd_X2_makeNew_15 (by decide) ?_
  refine J_istore_n hE (L' := [(3, .int (0 : Int32)), (0, .ref b), (1, .int i1), (2, .int i2)]) dd_X2_makeNew_16 (Nat.le_of_ble_eq_true rfl) rfl rfl ?_
  refine J_sub [1, 0] rfl ?_
  refine tX2_makeNew_L17 hv  hE (fun p9 => ?_) 400 (0 : Int32) S3
  show J V E _ _ 36 [] [] p9
  exact J_vret hE dd_X2_makeNew_36 rfl rfl
theorem dd_X2_hasCell_0 : jd cX2_hasCell 0 (.aload_n 0) 1 1 := ⟨by decide +kernel, rfl⟩
theorem dd_X2_hasCell_1 : jd cX2_hasCell 1 (.getfield 15) 3 4 := ⟨by decide +kernel, rfl⟩
theorem dd_X2_hasCell_25 : jd cX2_hasCell 25 (.iconst 0) 1 26 := ⟨by decide +kernel, rfl⟩
theorem dd_X2_hasCell_26 : jd cX2_hasCell 26 (.ireturn) 1 27 := ⟨by decide +kernel, rfl⟩
theorem dd_X2_hasCell_7 : jd cX2_hasCell 7 (.iload_n 1) 1 8 := ⟨by decide +kernel, rfl⟩
theorem dd_X2_hasCell_8 : jd cX2_hasCell 8 (.iconst 0) 1 9 := ⟨by decide +kernel, rfl⟩
theorem dd_X2_hasCell_9 : jd cX2_hasCell 9 (.aload_n 0) 1 10 := ⟨by decide +kernel, rfl⟩
theorem dd_X2_hasCell_10 : jd cX2_hasCell 10 (.getfield 23) 3 13 := ⟨by decide +kernel, rfl⟩
theorem dd_X2_hasCell_13 : jd cX2_hasCell 13 (.iconst 1) 1 14 := ⟨by decide +kernel, rfl⟩
theorem dd_X2_hasCell_14 : jd cX2_hasCell 14 (.isub) 1 15 := ⟨by decide +kernel, rfl⟩
theorem dd_X2_hasCell_15 : jd cX2_hasCell 15 (.invokestatic 26) 3 18 := ⟨by decide +kernel, rfl⟩
theorem dd_X2_hasCell_21 : jd cX2_hasCell 21 (.iconst 1) 1 22 := ⟨by decide +kernel, rfl⟩
theorem dd_X2_hasCell_22 : jd cX2_hasCell 22 (.goto 4) 3 25 := ⟨by decide +kernel, rfl⟩
theorem dd_X2_hasCell_18 : jd cX2_hasCell 18 (.ifCond .eq 7) 3 21 := ⟨by decide +kernel, rfl⟩
theorem dd_X2_hasCell_4 : jd cX2_hasCell 4 (.ifCond .eq 21) 3 7 := ⟨by decide +kernel, rfl⟩
theorem m_X2_hasCell : jmV yX2_hasCell cX2_hasCell 2 (some .boolean) 1 := ⟨⟨(jj_m (w := Cond.code yX2_hasCell cX2_hasCell 2 (some .boolean)) (List.mem_of_getElem? (i := 758) (by decide +kernel)) rfl), (jj_m (w := Cond.initialized yX2_hasCell.cls) (List.mem_of_getElem? (i := 67) (by decide +kernel)) rfl), ⟨by decide, by decide⟩, by decide +kernel⟩, (jj_m (w := Cond.instanceMethod yX2_hasCell) (List.mem_of_getElem? (i := 756) (by decide +kernel)) rfl), (jj_m (w := Cond.selects yX2_hasCell.cls yX2_hasCell yX2_hasCell) (List.mem_of_getElem? (i := 757) (by decide +kernel)) rfl)⟩
def fX2_hasCell (i1 : Int32) (S : M2) : Option (Int32) :=
  if (S 0 0) = 0 then
    some (0 : Int32)
  else
    (fX4_within i1 (0 : Int32) ((S 2 0) - (1 : Int32))).bind fun r1 =>
    if r1 = 0 then
      some (0 : Int32)
    else
      some (1 : Int32)

set_option maxHeartbeats 4000000 in
set_option maxRecDepth 100000 in
theorem tX2_hasCell (l : Launch) {V : JV M2} {b : Nat} {a : Nat → Nat} (hv : vX2 V b a) (S : M2) (i1 : Int32) : JC l V yX2_hasCell cX2_hasCell 2 (some .boolean) jj_i 1 [.ref b, .int i1] S ((fX2_hasCell i1 S).map (fun r => (r, S))) := by
  refine jj_of (by decide) (Nat.le_of_ble_eq_true rfl) (fun E hlE hE => ?_)
  unfold fX2_hasCell
  refine J_sub (L' := [(0, .ref b), (1, .int i1)]) [0, 1] rfl ?_
  refine J_aload_n hE dd_X2_hasCell_0 0 rfl rfl ?_
  refine J_get hE (hv.ob _) jc_X2 0 (by decide) fl_RX2_15 (v := .int (S 0 0)) rfl dd_X2_hasCell_1 ?_
  refine J_if_eq hE (tgt := 25) dd_X2_hasCell_4 (by decide) (fun c3 => ?_) (fun c3 => ?_)
  · refine J_iconst hE (v := (0 : Int32)) dd_X2_hasCell_25 (by decide) ?_
    exact J_zret hE (Or.inl rfl) dd_X2_hasCell_26 rfl rfl
  · refine J_iload_n hE dd_X2_hasCell_7 1 rfl rfl ?_
    refine J_iconst hE (v := (0 : Int32)) dd_X2_hasCell_8 (by decide) ?_
    refine J_aload_n hE dd_X2_hasCell_9 0 rfl rfl ?_
    refine J_get hE (hv.ob _) jc_X2 2 (by decide) fl_RX2_23 (v := .int (S 2 0)) rfl dd_X2_hasCell_10 ?_
    refine J_iconst hE (v := (1 : Int32)) dd_X2_hasCell_13 (by decide) ?_
    refine J_isub hE dd_X2_hasCell_14 ?_
    refine J_invNri hE (host := "MothCustoms") (As := [.int i1, .int (0 : Int32), .int ((S 2 0) - (1 : Int32))]) (st := []) (tX4_within E.2.1 V S i1 (0 : Int32) ((S 2 0) - (1 : Int32))) m_X4_within s_X4_within rfl (by decide +kernel) (Nat.le_of_ble_eq_true rfl) (Nat.le_of_ble_eq_true rfl) rfl (Nat.le_of_ble_eq_true rfl) dd_X2_hasCell_15 (fun r1 => ?_)
    refine J_if_eq hE (tgt := 25) dd_X2_hasCell_18 (by decide) (fun c2 => ?_) (fun c2 => ?_)
    · refine J_iconst hE (v := (0 : Int32)) dd_X2_hasCell_25 (by decide) ?_
      exact J_zret hE (Or.inl rfl) dd_X2_hasCell_26 rfl rfl
    · refine J_iconst hE (v := (1 : Int32)) dd_X2_hasCell_21 (by decide) ?_
      refine J_goto hE (tgt := 26) dd_X2_hasCell_22 (by decide) ?_
      exact J_zret hE (Or.inr rfl) dd_X2_hasCell_26 rfl rfl
theorem dd_X2_setCell_0 : jd cX2_setCell 0 (.aload_n 0) 1 1 := ⟨by decide +kernel, rfl⟩
theorem dd_X2_setCell_1 : jd cX2_setCell 1 (.getfield 19) 3 4 := ⟨by decide +kernel, rfl⟩
theorem dd_X2_setCell_18 : jd cX2_setCell 18 (.aload_n 0) 1 19 := ⟨by decide +kernel, rfl⟩
theorem dd_X2_setCell_19 : jd cX2_setCell 19 (.getfield 9) 3 22 := ⟨by decide +kernel, rfl⟩
theorem dd_X2_setCell_22 : jd cX2_setCell 22 (.iload_n 1) 1 23 := ⟨by decide +kernel, rfl⟩
theorem dd_X2_setCell_23 : jd cX2_setCell 23 (.aload_n 0) 1 24 := ⟨by decide +kernel, rfl⟩
theorem dd_X2_setCell_24 : jd cX2_setCell 24 (.getfield 19) 3 27 := ⟨by decide +kernel, rfl⟩
theorem dd_X2_setCell_27 : jd cX2_setCell 27 (.iconst 1) 1 28 := ⟨by decide +kernel, rfl⟩
theorem dd_X2_setCell_36 : jd cX2_setCell 36 (.iload_n 2) 1 37 := ⟨by decide +kernel, rfl⟩
theorem dd_X2_setCell_37 : jd cX2_setCell 37 (.iastore) 1 38 := ⟨by decide +kernel, rfl⟩
theorem dd_X2_setCell_38 : jd cX2_setCell 38 (.return_) 1 39 := ⟨by decide +kernel, rfl⟩
theorem dd_X2_setCell_31 : jd cX2_setCell 31 (.iload_n 2) 1 32 := ⟨by decide +kernel, rfl⟩
theorem dd_X2_setCell_32 : jd cX2_setCell 32 (.i2s) 1 33 := ⟨by decide +kernel, rfl⟩
theorem dd_X2_setCell_33 : jd cX2_setCell 33 (.goto 4) 3 36 := ⟨by decide +kernel, rfl⟩
theorem dd_X2_setCell_28 : jd cX2_setCell 28 (.if_icmp .ne 8) 3 31 := ⟨by decide +kernel, rfl⟩
theorem dd_X2_setCell_7 : jd cX2_setCell 7 (.aload_n 0) 1 8 := ⟨by decide +kernel, rfl⟩
theorem dd_X2_setCell_8 : jd cX2_setCell 8 (.getfield 9) 3 11 := ⟨by decide +kernel, rfl⟩
theorem dd_X2_setCell_11 : jd cX2_setCell 11 (.iload_n 1) 1 12 := ⟨by decide +kernel, rfl⟩
theorem dd_X2_setCell_12 : jd cX2_setCell 12 (.iload_n 2) 1 13 := ⟨by decide +kernel, rfl⟩
theorem dd_X2_setCell_13 : jd cX2_setCell 13 (.i2b) 1 14 := ⟨by decide +kernel, rfl⟩
theorem dd_X2_setCell_14 : jd cX2_setCell 14 (.iastore) 1 15 := ⟨by decide +kernel, rfl⟩
theorem dd_X2_setCell_15 : jd cX2_setCell 15 (.goto 23) 3 18 := ⟨by decide +kernel, rfl⟩
theorem dd_X2_setCell_4 : jd cX2_setCell 4 (.ifCond .ne 14) 3 7 := ⟨by decide +kernel, rfl⟩
theorem m_X2_setCell : jmV yX2_setCell cX2_setCell 3 none 2 := ⟨⟨(jj_m (w := Cond.code yX2_setCell cX2_setCell 3 none) (List.mem_of_getElem? (i := 763) (by decide +kernel)) rfl), (jj_m (w := Cond.initialized yX2_setCell.cls) (List.mem_of_getElem? (i := 67) (by decide +kernel)) rfl), ⟨by decide, by decide⟩, by decide +kernel⟩, (jj_m (w := Cond.instanceMethod yX2_setCell) (List.mem_of_getElem? (i := 761) (by decide +kernel)) rfl), (jj_m (w := Cond.selects yX2_setCell.cls yX2_setCell yX2_setCell) (List.mem_of_getElem? (i := 762) (by decide +kernel)) rfl)⟩
def fX2_setCell (i1 : Int32) (i2 : Int32) (S : M2) : Option (M2) :=
  if (S 1 0) = 0 then
    bnd i1 40 <|
    lt (va_up S 3 (upd (S 3) i1.toNatClampNeg (i2.toInt8.toInt32))) fun S4 =>
    some S4
  else
    if (S 1 0) = (1 : Int32) then
      bnd i1 40 <|
      lt (va_up S 3 (upd (S 3) i1.toNatClampNeg (i2.toInt16.toInt32))) fun S2 =>
      some S2
    else
      bnd i1 40 <|
      lt (va_up S 3 (upd (S 3) i1.toNatClampNeg i2)) fun S1 =>
      some S1

set_option maxHeartbeats 4000000 in
set_option maxRecDepth 100000 in
theorem tX2_setCell (l : Launch) {V : JV M2} {b : Nat} {a : Nat → Nat} (hv : vX2 V b a) (S : M2) (i1 : Int32) (i2 : Int32) : JC l V yX2_setCell cX2_setCell 3 none jj_v 0 [.ref b, .int i1, .int i2] S ((fX2_setCell i1 i2 S).map (fun q => ((), q))) := by
  refine jj_of (by decide) (Nat.le_of_ble_eq_true rfl) (fun E hlE hE => ?_)
  unfold fX2_setCell
  refine J_sub (L' := [(0, .ref b), (1, .int i1), (2, .int i2)]) [0, 1, 2] rfl ?_
  refine J_aload_n hE dd_X2_setCell_0 0 rfl rfl ?_
  refine J_get hE (hv.ob _) jc_X2 1 (by decide) fl_RX2_19 (v := .int (S 1 0)) rfl dd_X2_setCell_1 ?_
  refine J_if_ne hE (tgt := 18) dd_X2_setCell_4 (by decide) (fun c5 => ?_) (fun c5 => ?_)
  · refine J_aload_n hE dd_X2_setCell_18 0 rfl rfl ?_
    refine J_get hE (hv.ob _) jc_X2 3 (by decide) fl_RX2_9 (v := .ref (a 3)) rfl dd_X2_setCell_19 ?_
    refine J_iload_n hE dd_X2_setCell_22 1 rfl rfl ?_
    refine J_aload_n hE dd_X2_setCell_23 0 rfl rfl ?_
    refine J_get hE (hv.ob _) jc_X2 1 (by decide) fl_RX2_19 (v := .int (S 1 0)) rfl dd_X2_setCell_24 ?_
    refine J_iconst hE (v := (1 : Int32)) dd_X2_setCell_27 (by decide) ?_
    refine J_icmp_ne hE (tgt := 36) dd_X2_setCell_28 (by decide) (fun c3 => ?_) (fun c3 => ?_)
    · refine J_iload_n hE dd_X2_setCell_36 2 rfl rfl ?_
      refine J_ast hE hv 3 (N := 40) (by decide) dd_X2_setCell_37 ?_
      refine J_letS (fun S1 => ?_)
      exact J_vret hE dd_X2_setCell_38 rfl rfl
    · refine J_iload_n hE dd_X2_setCell_31 2 rfl rfl ?_
      refine J_i2s hE dd_X2_setCell_32 ?_
      refine J_goto hE (tgt := 37) dd_X2_setCell_33 (by decide) ?_
      refine J_ast hE hv 3 (N := 40) (by decide) dd_X2_setCell_37 ?_
      refine J_letS (fun S2 => ?_)
      exact J_vret hE dd_X2_setCell_38 rfl rfl
  · refine J_aload_n hE dd_X2_setCell_7 0 rfl rfl ?_
    refine J_get hE (hv.ob _) jc_X2 3 (by decide) fl_RX2_9 (v := .ref (a 3)) rfl dd_X2_setCell_8 ?_
    refine J_iload_n hE dd_X2_setCell_11 1 rfl rfl ?_
    refine J_iload_n hE dd_X2_setCell_12 2 rfl rfl ?_
    refine J_i2b hE dd_X2_setCell_13 ?_
    refine J_ast hE hv 3 (N := 40) (by decide) dd_X2_setCell_14 ?_
    refine J_letS (fun S4 => ?_)
    refine J_goto hE (tgt := 38) dd_X2_setCell_15 (by decide) ?_
    exact J_vret hE dd_X2_setCell_38 rfl rfl
theorem dd_X2_faultAs_0 : jd cX2_faultAs 0 (.aload_n 0) 1 1 := ⟨by decide +kernel, rfl⟩
theorem dd_X2_faultAs_1 : jd cX2_faultAs 1 (.getfield 15) 3 4 := ⟨by decide +kernel, rfl⟩
theorem dd_X2_faultAs_9 : jd cX2_faultAs 9 (.aload_n 0) 1 10 := ⟨by decide +kernel, rfl⟩
theorem dd_X2_faultAs_10 : jd cX2_faultAs 10 (.getfield 19) 3 13 := ⟨by decide +kernel, rfl⟩
theorem dd_X2_faultAs_13 : jd cX2_faultAs 13 (.iload_n 1) 1 14 := ⟨by decide +kernel, rfl⟩
theorem dd_X2_faultAs_21 : jd cX2_faultAs 21 (.iconst 3) 1 22 := ⟨by decide +kernel, rfl⟩
theorem dd_X2_faultAs_22 : jd cX2_faultAs 22 (.ireturn) 1 23 := ⟨by decide +kernel, rfl⟩
theorem dd_X2_faultAs_17 : jd cX2_faultAs 17 (.iconst 0) 1 18 := ⟨by decide +kernel, rfl⟩
theorem dd_X2_faultAs_18 : jd cX2_faultAs 18 (.goto 4) 3 21 := ⟨by decide +kernel, rfl⟩
theorem dd_X2_faultAs_14 : jd cX2_faultAs 14 (.if_icmp .ne 7) 3 17 := ⟨by decide +kernel, rfl⟩
theorem dd_X2_faultAs_7 : jd cX2_faultAs 7 (.iconst 1) 1 8 := ⟨by decide +kernel, rfl⟩
theorem dd_X2_faultAs_8 : jd cX2_faultAs 8 (.ireturn) 1 9 := ⟨by decide +kernel, rfl⟩
theorem dd_X2_faultAs_4 : jd cX2_faultAs 4 (.ifCond .ne 5) 3 7 := ⟨by decide +kernel, rfl⟩
theorem m_X2_faultAs : jmV yX2_faultAs cX2_faultAs 2 (some .int) 1 := ⟨⟨(jj_m (w := Cond.code yX2_faultAs cX2_faultAs 2 (some .int)) (List.mem_of_getElem? (i := 771) (by decide +kernel)) rfl), (jj_m (w := Cond.initialized yX2_faultAs.cls) (List.mem_of_getElem? (i := 67) (by decide +kernel)) rfl), ⟨by decide, by decide⟩, by decide +kernel⟩, (jj_m (w := Cond.instanceMethod yX2_faultAs) (List.mem_of_getElem? (i := 769) (by decide +kernel)) rfl), (jj_m (w := Cond.selects yX2_faultAs.cls yX2_faultAs yX2_faultAs) (List.mem_of_getElem? (i := 770) (by decide +kernel)) rfl)⟩
def fX2_faultAs (i1 : Int32) (S : M2) : Option (Int32) :=
  if (S 0 0) = 0 then
    some (1 : Int32)
  else
    if (S 1 0) = i1 then
      some (0 : Int32)
    else
      some (3 : Int32)

set_option maxHeartbeats 4000000 in
set_option maxRecDepth 100000 in
theorem tX2_faultAs (l : Launch) {V : JV M2} {b : Nat} {a : Nat → Nat} (hv : vX2 V b a) (S : M2) (i1 : Int32) : JC l V yX2_faultAs cX2_faultAs 2 (some .int) jj_i 0 [.ref b, .int i1] S ((fX2_faultAs i1 S).map (fun r => (r, S))) := by
  refine jj_of (by decide) (Nat.le_of_ble_eq_true rfl) (fun E hlE hE => ?_)
  unfold fX2_faultAs
  refine J_sub (L' := [(0, .ref b), (1, .int i1)]) [0, 1] rfl ?_
  refine J_aload_n hE dd_X2_faultAs_0 0 rfl rfl ?_
  refine J_get hE (hv.ob _) jc_X2 0 (by decide) fl_RX2_15 (v := .int (S 0 0)) rfl dd_X2_faultAs_1 ?_
  refine J_if_ne hE (tgt := 9) dd_X2_faultAs_4 (by decide) (fun c2 => ?_) (fun c2 => ?_)
  · refine J_aload_n hE dd_X2_faultAs_9 0 rfl rfl ?_
    refine J_get hE (hv.ob _) jc_X2 1 (by decide) fl_RX2_19 (v := .int (S 1 0)) rfl dd_X2_faultAs_10 ?_
    refine J_iload_n hE dd_X2_faultAs_13 1 rfl rfl ?_
    refine J_icmp_ne hE (tgt := 21) dd_X2_faultAs_14 (by decide) (fun c1 => ?_) (fun c1 => ?_)
    · refine J_iconst hE (v := (3 : Int32)) dd_X2_faultAs_21 (by decide) ?_
      exact J_iret hE dd_X2_faultAs_22 rfl rfl
    · refine J_iconst hE (v := (0 : Int32)) dd_X2_faultAs_17 (by decide) ?_
      refine J_goto hE (tgt := 22) dd_X2_faultAs_18 (by decide) ?_
      exact J_iret hE dd_X2_faultAs_22 rfl rfl
  · refine J_iconst hE (v := (1 : Int32)) dd_X2_faultAs_7 (by decide) ?_
    exact J_iret hE dd_X2_faultAs_8 rfl rfl
theorem dd_X2_wholePairs_0 : jd cX2_wholePairs 0 (.iconst 0) 1 1 := ⟨by decide +kernel, rfl⟩
theorem dd_X2_wholePairs_1 : jd cX2_wholePairs 1 (.istore_n 3) 1 2 := ⟨by decide +kernel, rfl⟩
theorem dd_X2_wholePairs_2 : jd cX2_wholePairs 2 (.iload_n 3) 1 3 := ⟨by decide +kernel, rfl⟩
theorem dd_X2_wholePairs_3 : jd cX2_wholePairs 3 (.iload_n 2) 1 4 := ⟨by decide +kernel, rfl⟩
theorem dd_X2_wholePairs_7 : jd cX2_wholePairs 7 (.aload_n 0) 1 8 := ⟨by decide +kernel, rfl⟩
theorem dd_X2_wholePairs_8 : jd cX2_wholePairs 8 (.iload_n 1) 1 9 := ⟨by decide +kernel, rfl⟩
theorem ml_RX2_30 : (Cond.methodLink "MothCustoms$Sheet" 30 yX2_hasCell : Cond) ∈ jj_tb := jj_m (List.mem_of_getElem? (i := 776) (by decide +kernel)) rfl
theorem dd_X2_wholePairs_9 : jd cX2_wholePairs 9 (.invokevirtual 30) 3 12 := ⟨by decide +kernel, rfl⟩
theorem dd_X2_wholePairs_15 : jd cX2_wholePairs 15 (.aload_n 0) 1 16 := ⟨by decide +kernel, rfl⟩
theorem dd_X2_wholePairs_16 : jd cX2_wholePairs 16 (.iload_n 1) 1 17 := ⟨by decide +kernel, rfl⟩
theorem dd_X2_wholePairs_17 : jd cX2_wholePairs 17 (.iconst 2) 1 18 := ⟨by decide +kernel, rfl⟩
theorem dd_X2_wholePairs_18 : jd cX2_wholePairs 18 (.iload_n 3) 1 19 := ⟨by decide +kernel, rfl⟩
theorem dd_X2_wholePairs_19 : jd cX2_wholePairs 19 (.imul) 1 20 := ⟨by decide +kernel, rfl⟩
theorem dd_X2_wholePairs_20 : jd cX2_wholePairs 20 (.iadd) 1 21 := ⟨by decide +kernel, rfl⟩
theorem dd_X2_wholePairs_21 : jd cX2_wholePairs 21 (.iconst 1) 1 22 := ⟨by decide +kernel, rfl⟩
theorem dd_X2_wholePairs_22 : jd cX2_wholePairs 22 (.iadd) 1 23 := ⟨by decide +kernel, rfl⟩
theorem dd_X2_wholePairs_23 : jd cX2_wholePairs 23 (.invokevirtual 30) 3 26 := ⟨by decide +kernel, rfl⟩
theorem dd_X2_wholePairs_29 : jd cX2_wholePairs 29 (.iinc 3 1) 3 32 := ⟨by decide +kernel, rfl⟩
theorem dd_X2_wholePairs_32 : jd cX2_wholePairs 32 (.goto (-30)) 3 35 := ⟨by decide +kernel, rfl⟩
theorem dd_X2_wholePairs_26 : jd cX2_wholePairs 26 (.ifCond .eq 9) 3 29 := ⟨by decide +kernel, rfl⟩
theorem dd_X2_wholePairs_12 : jd cX2_wholePairs 12 (.ifCond .eq 23) 3 15 := ⟨by decide +kernel, rfl⟩
theorem dd_X2_wholePairs_4 : jd cX2_wholePairs 4 (.if_icmp .ge 31) 3 7 := ⟨by decide +kernel, rfl⟩
theorem dd_X2_wholePairs_35 : jd cX2_wholePairs 35 (.iload_n 3) 1 36 := ⟨by decide +kernel, rfl⟩
theorem dd_X2_wholePairs_36 : jd cX2_wholePairs 36 (.ireturn) 1 37 := ⟨by decide +kernel, rfl⟩
theorem m_X2_wholePairs : jmV yX2_wholePairs cX2_wholePairs 4 (some .int) 2 := ⟨⟨(jj_m (w := Cond.code yX2_wholePairs cX2_wholePairs 4 (some .int)) (List.mem_of_getElem? (i := 775) (by decide +kernel)) rfl), (jj_m (w := Cond.initialized yX2_wholePairs.cls) (List.mem_of_getElem? (i := 67) (by decide +kernel)) rfl), ⟨by decide, by decide⟩, by decide +kernel⟩, (jj_m (w := Cond.instanceMethod yX2_wholePairs) (List.mem_of_getElem? (i := 773) (by decide +kernel)) rfl), (jj_m (w := Cond.selects yX2_wholePairs.cls yX2_wholePairs yX2_wholePairs) (List.mem_of_getElem? (i := 774) (by decide +kernel)) rfl)⟩
def fX2_wholePairs_L2 (S : M2) (i1 : Int32) (i2 : Int32) (k35 : Int32 → Option (Int32)) : Nat → Int32 → Option (Int32)
  | 0, _ => none
  | n_ + 1, v1 =>
    if i2 ≤ v1 then
      k35 v1
    else
      (fX2_hasCell i1 S).bind fun r2 =>
      if r2 = 0 then
        k35 v1
      else
        (fX2_hasCell ((i1 + ((2 : Int32) * v1)) + (1 : Int32)) S).bind fun r3 =>
        if r3 = 0 then
          k35 v1
        else
          lt (v1 + (1 : Int32)) fun x4 =>
          fX2_wholePairs_L2 S i1 i2 k35 n_ x4

def fX2_wholePairs (i1 : Int32) (i2 : Int32) (S : M2) : Option (Int32) :=
  fX2_wholePairs_L2 S i1 i2
    (fun p8 =>
      some p8)
    400 (0 : Int32)

set_option maxHeartbeats 4000000 in
set_option maxRecDepth 100000 in
theorem tX2_wholePairs_L2 {V : JV M2} {b : Nat} {a : Nat → Nat} (hv : vX2 V b a) (S : M2) (i1 : Int32) (i2 : Int32) {E : JE (M2) Int32} (hE : JOk V E cX2_wholePairs yX2_wholePairs.cls 4 2 (some .int) jj_i) {k35 : Int32 → Option (Int32)} (hk35 : ∀ p, J V E (fun r => (r, S)) (k35 p) 35 [(3, .int p)] [] S) : ∀ (n_ : Nat) (v1 : Int32), J V E (fun r => (r, S)) (fX2_wholePairs_L2 S i1 i2 k35 n_ v1) 2 [(0, .ref b), (1, .int i1), (2, .int i2), (3, .int v1)] [] S := by
  intro n_
  induction n_ with
  | zero =>
    intros
    exact J_none
  | succ n_ ih =>
    intros v1
    rw [fX2_wholePairs_L2]
    refine J_iload_n hE dd_X2_wholePairs_2 3 rfl rfl ?_
    refine J_iload_n hE dd_X2_wholePairs_3 2 rfl rfl ?_
    refine J_icmp_ge hE (tgt := 35) dd_X2_wholePairs_4 (by decide) (fun c7 => ?_) (fun c7 => ?_)
    · refine J_sub [3] rfl ?_
      exact hk35 v1
    · refine J_aload_n hE dd_X2_wholePairs_7 0 rfl rfl ?_
      refine J_iload_n hE dd_X2_wholePairs_8 1 rfl rfl ?_
      refine J_invVri hE (As := [.int i1]) (st := []) (tX2_hasCell E.2.1 hv S i1) (hv.ob _) m_X2_hasCell rfl ml_RX2_30 (Nat.le_of_ble_eq_true rfl) (Nat.le_of_ble_eq_true rfl) rfl (Nat.le_of_ble_eq_true rfl) dd_X2_wholePairs_9 (fun r2 => ?_)
      refine J_if_eq hE (tgt := 35) dd_X2_wholePairs_12 (by decide) (fun c6 => ?_) (fun c6 => ?_)
      · refine J_sub [3] rfl ?_
        exact hk35 v1
      · refine J_aload_n hE dd_X2_wholePairs_15 0 rfl rfl ?_
        refine J_iload_n hE dd_X2_wholePairs_16 1 rfl rfl ?_
        refine J_iconst hE (v := (2 : Int32)) dd_X2_wholePairs_17 (by decide) ?_
        refine J_iload_n hE dd_X2_wholePairs_18 3 rfl rfl ?_
        refine J_imul hE dd_X2_wholePairs_19 ?_
        refine J_iadd hE dd_X2_wholePairs_20 ?_
        refine J_iconst hE (v := (1 : Int32)) dd_X2_wholePairs_21 (by decide) ?_
        refine J_iadd hE dd_X2_wholePairs_22 ?_
        refine J_invVri hE (As := [.int ((i1 + ((2 : Int32) * v1)) + (1 : Int32))]) (st := []) (tX2_hasCell E.2.1 hv S ((i1 + ((2 : Int32) * v1)) + (1 : Int32))) (hv.ob _) m_X2_hasCell rfl ml_RX2_30 (Nat.le_of_ble_eq_true rfl) (Nat.le_of_ble_eq_true rfl) rfl (Nat.le_of_ble_eq_true rfl) dd_X2_wholePairs_23 (fun r3 => ?_)
        refine J_if_eq hE (tgt := 35) dd_X2_wholePairs_26 (by decide) (fun c5 => ?_) (fun c5 => ?_)
        · refine J_sub [3] rfl ?_
          exact hk35 v1
        · refine J_iincL hE (v := (v1 + (1 : Int32))) (Lf := fun x4 => [(3, .int x4), (0, .ref b), (1, .int i1), (2, .int i2)]) dd_X2_wholePairs_29 (j := 3) rfl (congrArg (v1 + ·) (by decide)) (Nat.le_of_ble_eq_true rfl) (fun _ => rfl) (fun x4 => ?_)
          refine J_goto hE (tgt := 2) dd_X2_wholePairs_32 (by decide) ?_
          refine J_sub [1, 2, 3, 0] rfl ?_
          exact ih x4
set_option maxHeartbeats 4000000 in
set_option maxRecDepth 100000 in
theorem tX2_wholePairs (l : Launch) {V : JV M2} {b : Nat} {a : Nat → Nat} (hv : vX2 V b a) (S : M2) (i1 : Int32) (i2 : Int32) : JC l V yX2_wholePairs cX2_wholePairs 4 (some .int) jj_i 2 [.ref b, .int i1, .int i2] S ((fX2_wholePairs i1 i2 S).map (fun r => (r, S))) := by
  refine jj_of (by decide) (Nat.le_of_ble_eq_true rfl) (fun E hlE hE => ?_)
  unfold fX2_wholePairs
  refine J_sub (L' := [(0, .ref b), (1, .int i1), (2, .int i2)]) [0, 1, 2] rfl ?_
  refine J_iconst hE (v := (0 : Int32)) dd_X2_wholePairs_0 (by decide) ?_
  refine J_istore_n hE (L' := [(3, .int (0 : Int32)), (0, .ref b), (1, .int i1), (2, .int i2)]) dd_X2_wholePairs_1 (Nat.le_of_ble_eq_true rfl) rfl rfl ?_
  refine J_sub [1, 2, 3, 0] rfl ?_
  refine tX2_wholePairs_L2 hv S i1 i2 hE (fun p8 => ?_) 400 (0 : Int32)
  show J V E _ _ 35 [(3, .int p8)] [] S
  refine J_iload_n hE dd_X2_wholePairs_35 0 rfl rfl ?_
  exact J_iret hE dd_X2_wholePairs_36 rfl rfl
end
section
theorem dd_X0_weighFolding_0 : jd cX0_weighFolding 0 (.aload_n 0) 1 1 := ⟨by decide +kernel, rfl⟩
theorem fl_RX0_12 : (Cond.fieldLink "MothCustoms$Search" 12 "MothCustoms$Search" "tried" "LMothCustoms$Shed;" : Cond) ∈ jj_tb := jj_m (List.mem_of_getElem? (i := 247) (by decide +kernel)) rfl
theorem dd_X0_weighFolding_1 : jd cX0_weighFolding 1 (.getfield 12) 3 4 := ⟨by decide +kernel, rfl⟩
theorem dd_X0_weighFolding_4 : jd cX0_weighFolding 4 (.aload_n 1) 1 5 := ⟨by decide +kernel, rfl⟩
theorem ml_RX0_59 : (Cond.methodLink "MothCustoms$Search" 59 yX1_copyHolesFrom : Cond) ∈ jj_tb := jj_m (List.mem_of_getElem? (i := 643) (by decide +kernel)) rfl
theorem dd_X0_weighFolding_5 : jd cX0_weighFolding 5 (.invokevirtual 59) 3 8 := ⟨by decide +kernel, rfl⟩
theorem dd_X0_weighFolding_8 : jd cX0_weighFolding 8 (.aload_n 0) 1 9 := ⟨by decide +kernel, rfl⟩
theorem dd_X0_weighFolding_9 : jd cX0_weighFolding 9 (.getfield 12) 3 12 := ⟨by decide +kernel, rfl⟩
theorem dd_X0_weighFolding_12 : jd cX0_weighFolding 12 (.bipush 15) 2 14 := ⟨by decide +kernel, rfl⟩
theorem ml_RX0_62 : (Cond.methodLink "MothCustoms$Search" 62 yX1_letLoose : Cond) ∈ jj_tb := jj_m (List.mem_of_getElem? (i := 644) (by decide +kernel)) rfl
theorem dd_X0_weighFolding_14 : jd cX0_weighFolding 14 (.invokevirtual 62) 3 17 := ⟨by decide +kernel, rfl⟩
theorem dd_X0_weighFolding_17 : jd cX0_weighFolding 17 (.aload_n 0) 1 18 := ⟨by decide +kernel, rfl⟩
theorem dd_X0_weighFolding_18 : jd cX0_weighFolding 18 (.getfield 12) 3 21 := ⟨by decide +kernel, rfl⟩
theorem ml_RX0_66 : (Cond.methodLink "MothCustoms$Search" 66 yX1_dutyOfAll : Cond) ∈ jj_tb := jj_m (List.mem_of_getElem? (i := 645) (by decide +kernel)) rfl
theorem dd_X0_weighFolding_21 : jd cX0_weighFolding 21 (.invokevirtual 66) 3 24 := ⟨by decide +kernel, rfl⟩
theorem dd_X0_weighFolding_24 : jd cX0_weighFolding 24 (.istore_n 2) 1 25 := ⟨by decide +kernel, rfl⟩
theorem dd_X0_weighFolding_25 : jd cX0_weighFolding 25 (.iload_n 2) 1 26 := ⟨by decide +kernel, rfl⟩
theorem dd_X0_weighFolding_26 : jd cX0_weighFolding 26 (.aload_n 0) 1 27 := ⟨by decide +kernel, rfl⟩
theorem fl_RX0_32 : (Cond.fieldLink "MothCustoms$Search" 32 "MothCustoms$Search" "least" "I" : Cond) ∈ jj_tb := jj_m (List.mem_of_getElem? (i := 251) (by decide +kernel)) rfl
theorem dd_X0_weighFolding_27 : jd cX0_weighFolding 27 (.getfield 32) 3 30 := ⟨by decide +kernel, rfl⟩
theorem dd_X0_weighFolding_52 : jd cX0_weighFolding 52 (.return_) 1 53 := ⟨by decide +kernel, rfl⟩
theorem dd_X0_weighFolding_33 : jd cX0_weighFolding 33 (.aload_n 0) 1 34 := ⟨by decide +kernel, rfl⟩
theorem dd_X0_weighFolding_34 : jd cX0_weighFolding 34 (.iload_n 2) 1 35 := ⟨by decide +kernel, rfl⟩
theorem dd_X0_weighFolding_35 : jd cX0_weighFolding 35 (.putfield 32) 3 38 := ⟨by decide +kernel, rfl⟩
theorem dd_X0_weighFolding_38 : jd cX0_weighFolding 38 (.aload_n 0) 1 39 := ⟨by decide +kernel, rfl⟩
theorem fl_RX0_18 : (Cond.fieldLink "MothCustoms$Search" 18 "MothCustoms$Search" "codes" "[I" : Cond) ∈ jj_tb := jj_m (List.mem_of_getElem? (i := 248) (by decide +kernel)) rfl
theorem dd_X0_weighFolding_39 : jd cX0_weighFolding 39 (.getfield 18) 3 42 := ⟨by decide +kernel, rfl⟩
theorem dd_X0_weighFolding_42 : jd cX0_weighFolding 42 (.iconst 0) 1 43 := ⟨by decide +kernel, rfl⟩
theorem dd_X0_weighFolding_43 : jd cX0_weighFolding 43 (.aload_n 0) 1 44 := ⟨by decide +kernel, rfl⟩
theorem fl_RX0_22 : (Cond.fieldLink "MothCustoms$Search" 22 "MothCustoms$Search" "bestCodes" "[I" : Cond) ∈ jj_tb := jj_m (List.mem_of_getElem? (i := 249) (by decide +kernel)) rfl
theorem dd_X0_weighFolding_44 : jd cX0_weighFolding 44 (.getfield 22) 3 47 := ⟨by decide +kernel, rfl⟩
theorem dd_X0_weighFolding_47 : jd cX0_weighFolding 47 (.iconst 0) 1 48 := ⟨by decide +kernel, rfl⟩
theorem dd_X0_weighFolding_48 : jd cX0_weighFolding 48 (.iconst 5) 1 49 := ⟨by decide +kernel, rfl⟩
theorem ml_RX0_70 : (Cond.methodLink "MothCustoms$Search" 70 arraycopyName : Cond) ∈ jj_tb := jj_m (List.mem_of_getElem? (i := 646) (by decide +kernel)) rfl
theorem dd_X0_weighFolding_49 : jd cX0_weighFolding 49 (.invokestatic 70) 3 52 := ⟨by decide +kernel, rfl⟩
theorem dd_X0_weighFolding_30 : jd cX0_weighFolding 30 (.if_icmp .ge 22) 3 33 := ⟨by decide +kernel, rfl⟩
theorem m_X0_weighFolding : jmS yX0_weighFolding cX0_weighFolding 3 none 2 := ⟨(jj_m (w := Cond.code yX0_weighFolding cX0_weighFolding 3 none) (List.mem_of_getElem? (i := 642) (by decide +kernel)) rfl), (jj_m (w := Cond.initialized yX0_weighFolding.cls) (List.mem_of_getElem? (i := 68) (by decide +kernel)) rfl), ⟨by decide, by decide⟩, by decide +kernel⟩
theorem s_X0_weighFolding : (Cond.static yX0_weighFolding : Cond) ∈ jj_tb := (jj_m (w := Cond.static yX0_weighFolding) (List.mem_of_getElem? (i := 641) (by decide +kernel)) rfl)
def fX0_weighFolding  (T : M2) (S : M2) (N : M2) : Option (M2 × M2) :=
  (fX1_copyHolesFrom  S N).bind fun q1 =>
  lt (q1) fun S2 =>
  (fX1_letLoose (15 : Int32) S2).bind fun q3 =>
  lt (q3) fun S4 =>
  (fX1_dutyOfAll  S4).bind fun r5 =>
  if (T 3 0) ≤ r5 then
    some (T, S4)
  else
    lt (va_up T 3 (fun _ => r5)) fun T6 =>
    lt (va_up T6 2 (va_cpy (T6 1) (T6 2) 0 0 5)) fun T7 =>
    some (T7, S4)

set_option maxHeartbeats 4000000 in
set_option maxRecDepth 100000 in
theorem tX0_weighFolding (l : Launch) {V : JV (M2 × M2)} {b : Nat} {a : Nat → Nat} {b2 : Nat} {a2 : Nat → Nat} {b3 : Nat} {a3 : Nat → Nat} {N : M2} (hv1 : v1X0 V b a b2) (hv2 : v2X1 V b2 a2) (hr : rX1 V b3 a3 N) (T : M2) (S : M2)  : JC l V yX0_weighFolding cX0_weighFolding 3 none jj_v 4 [.ref b, .ref b3] (T, S) ((fX0_weighFolding  T S N).map (fun q => ((), q))) := by
  refine jj_of (by decide) (Nat.le_of_ble_eq_true rfl) (fun E hlE hE => ?_)
  unfold fX0_weighFolding
  refine J_sub (L' := [(0, .ref b), (1, .ref b3)]) [0, 1] rfl ?_
  refine J_aload_n hE dd_X0_weighFolding_0 0 rfl rfl ?_
  refine J_get hE (hv1.ob _) jc_X0 0 (by decide) fl_RX0_12 (v := .ref b2) rfl dd_X0_weighFolding_1 ?_
  refine J_aload_n hE dd_X0_weighFolding_4 1 rfl rfl ?_
  refine J_invVwv hE (As := [.ref b3]) (st := []) (JC.lift_v (e := fun S => (T, S)) (tX1_copyHolesFrom E.2.1 (v2X1s hv2 T) (rX1s hr T) S ) rfl) (hv2.ob _) m_X1_copyHolesFrom rfl ml_RX0_59 (Nat.le_of_ble_eq_true rfl) (Nat.le_of_ble_eq_true rfl) rfl (Nat.le_of_ble_eq_true rfl) dd_X0_weighFolding_5 (fun q1 => ?_)
  refine J_let2 (T := T) (fun S2 => ?_)
  refine J_aload_n hE dd_X0_weighFolding_8 0 rfl rfl ?_
  refine J_get hE (hv1.ob _) jc_X0 0 (by decide) fl_RX0_12 (v := .ref b2) rfl dd_X0_weighFolding_9 ?_
  refine J_bipush hE (v := (15 : Int32)) dd_X0_weighFolding_12 (by decide) ?_
  refine J_invVwv hE (As := [.int (15 : Int32)]) (st := []) (JC.lift_v (e := fun S => (T, S)) (tX1_letLoose E.2.1 (v2X1s hv2 T) S2 (15 : Int32)) rfl) (hv2.ob _) m_X1_letLoose rfl ml_RX0_62 (Nat.le_of_ble_eq_true rfl) (Nat.le_of_ble_eq_true rfl) rfl (Nat.le_of_ble_eq_true rfl) dd_X0_weighFolding_14 (fun q3 => ?_)
  refine J_let2 (T := T) (fun S4 => ?_)
  refine J_aload_n hE dd_X0_weighFolding_17 0 rfl rfl ?_
  refine J_get hE (hv1.ob _) jc_X0 0 (by decide) fl_RX0_12 (v := .ref b2) rfl dd_X0_weighFolding_18 ?_
  refine J_invVri hE (As := []) (st := []) (JC.lift_r (e := fun S => (T, S)) (tX1_dutyOfAll E.2.1 (v2X1s hv2 T) S4 ) rfl) (hv2.ob _) m_X1_dutyOfAll rfl ml_RX0_66 (Nat.le_of_ble_eq_true rfl) (Nat.le_of_ble_eq_true rfl) rfl (Nat.le_of_ble_eq_true rfl) dd_X0_weighFolding_21 (fun r5 => ?_)
  refine J_istore_n hE (L' := [(2, .int r5), (0, .ref b), (1, .ref b3)]) dd_X0_weighFolding_24 (Nat.le_of_ble_eq_true rfl) rfl rfl ?_
  refine J_iload_n hE dd_X0_weighFolding_25 0 rfl rfl ?_
  refine J_aload_n hE dd_X0_weighFolding_26 1 rfl rfl ?_
  refine J_get hE (hv1.ob _) jc_X0 3 (by decide) fl_RX0_32 (v := .int (T 3 0)) rfl dd_X0_weighFolding_27 ?_
  refine J_icmp_ge hE (tgt := 52) dd_X0_weighFolding_30 (by decide) (fun c8 => ?_) (fun c8 => ?_)
  · exact J_vret hE dd_X0_weighFolding_52 rfl rfl
  · refine J_aload_n hE dd_X0_weighFolding_33 1 rfl rfl ?_
    refine J_iload_n hE dd_X0_weighFolding_34 0 rfl rfl ?_
    refine J_put hE hv1 jc_X0 3 (by decide) (by decide) fl_RX0_32 rfl rfl rfl (Nat.le_of_ble_eq_true rfl) dd_X0_weighFolding_35 ?_
    refine J_let1 (S := S4) (fun T6 => ?_)
    refine J_aload_n hE dd_X0_weighFolding_38 1 rfl rfl ?_
    refine J_get hE (hv1.ob _) jc_X0 1 (by decide) fl_RX0_18 (v := .ref (a 1)) rfl dd_X0_weighFolding_39 ?_
    refine J_iconst hE (v := (0 : Int32)) dd_X0_weighFolding_42 (by decide) ?_
    refine J_aload_n hE dd_X0_weighFolding_43 1 rfl rfl ?_
    refine J_get hE (hv1.ob _) jc_X0 2 (by decide) fl_RX0_22 (v := .ref (a 2)) rfl dd_X0_weighFolding_44 ?_
    refine J_iconst hE (v := (0 : Int32)) dd_X0_weighFolding_47 (by decide) ?_
    refine J_iconst hE (v := (5 : Int32)) dd_X0_weighFolding_48 (by decide) ?_
    refine J_copy hE hv1 2 (N := 5) (by decide) (hv1.arr 1 (n := 5) (ty := .int) (by decide) _) (by decide) (by decide) ml_RX0_70 (Nat.le_of_ble_eq_true rfl) (Nat.le_of_ble_eq_true rfl) dd_X0_weighFolding_49 ?_
    refine J_let1 (S := S4) (fun T7 => ?_)
    exact J_vret hE dd_X0_weighFolding_52 rfl rfl
theorem dd_X0_placeFrom_0 : jd cX0_placeFrom 0 (.iload_n 2) 1 1 := ⟨by decide +kernel, rfl⟩
theorem dd_X0_placeFrom_1 : jd cX0_placeFrom 1 (.aload_n 1) 1 2 := ⟨by decide +kernel, rfl⟩
theorem fl_RX0_43 : (Cond.fieldLink "MothCustoms$Search" 43 "MothCustoms$Shed" "bolts" "I" : Cond) ∈ jj_tb := jj_m (List.mem_of_getElem? (i := 138) (by decide +kernel)) rfl
theorem dd_X0_placeFrom_2 : jd cX0_placeFrom 2 (.getfield 43) 3 5 := ⟨by decide +kernel, rfl⟩
theorem dd_X0_placeFrom_14 : jd cX0_placeFrom 14 (.iconst 0) 1 15 := ⟨by decide +kernel, rfl⟩
theorem dd_X0_placeFrom_15 : jd cX0_placeFrom 15 (.istore 4) 2 17 := ⟨by decide +kernel, rfl⟩
theorem dd_X0_placeFrom_17 : jd cX0_placeFrom 17 (.iload 4) 2 19 := ⟨by decide +kernel, rfl⟩
theorem dd_X0_placeFrom_19 : jd cX0_placeFrom 19 (.iconst 3) 1 20 := ⟨by decide +kernel, rfl⟩
theorem dd_X0_placeFrom_23 : jd cX0_placeFrom 23 (.aload_n 0) 1 24 := ⟨by decide +kernel, rfl⟩
theorem dd_X0_placeFrom_24 : jd cX0_placeFrom 24 (.getfield 12) 3 27 := ⟨by decide +kernel, rfl⟩
theorem fl_RX0_29 : (Cond.fieldLink "MothCustoms$Search" 29 "MothCustoms$Shed" "height" "[I" : Cond) ∈ jj_tb := jj_m (List.mem_of_getElem? (i := 153) (by decide +kernel)) rfl
theorem dd_X0_placeFrom_27 : jd cX0_placeFrom 27 (.getfield 29) 3 30 := ⟨by decide +kernel, rfl⟩
theorem dd_X0_placeFrom_30 : jd cX0_placeFrom 30 (.iload 4) 2 32 := ⟨by decide +kernel, rfl⟩
theorem dd_X0_placeFrom_32 : jd cX0_placeFrom 32 (.iaload) 1 33 := ⟨by decide +kernel, rfl⟩
theorem dd_X0_placeFrom_33 : jd cX0_placeFrom 33 (.istore 5) 2 35 := ⟨by decide +kernel, rfl⟩
theorem dd_X0_placeFrom_35 : jd cX0_placeFrom 35 (.iconst 0) 1 36 := ⟨by decide +kernel, rfl⟩
theorem dd_X0_placeFrom_36 : jd cX0_placeFrom 36 (.istore 6) 2 38 := ⟨by decide +kernel, rfl⟩
theorem dd_X0_placeFrom_38 : jd cX0_placeFrom 38 (.iload 6) 2 40 := ⟨by decide +kernel, rfl⟩
theorem dd_X0_placeFrom_40 : jd cX0_placeFrom 40 (.aload_n 1) 1 41 := ⟨by decide +kernel, rfl⟩
theorem dd_X0_placeFrom_41 : jd cX0_placeFrom 41 (.getfield 43) 3 44 := ⟨by decide +kernel, rfl⟩
theorem dd_X0_placeFrom_47 : jd cX0_placeFrom 47 (.iload 4) 2 49 := ⟨by decide +kernel, rfl⟩
theorem dd_X0_placeFrom_49 : jd cX0_placeFrom 49 (.iconst 5) 1 50 := ⟨by decide +kernel, rfl⟩
theorem dd_X0_placeFrom_50 : jd cX0_placeFrom 50 (.imul) 1 51 := ⟨by decide +kernel, rfl⟩
theorem dd_X0_placeFrom_51 : jd cX0_placeFrom 51 (.iload 6) 2 53 := ⟨by decide +kernel, rfl⟩
theorem dd_X0_placeFrom_53 : jd cX0_placeFrom 53 (.iadd) 1 54 := ⟨by decide +kernel, rfl⟩
theorem dd_X0_placeFrom_54 : jd cX0_placeFrom 54 (.istore 7) 2 56 := ⟨by decide +kernel, rfl⟩
theorem dd_X0_placeFrom_56 : jd cX0_placeFrom 56 (.iconst 0) 1 57 := ⟨by decide +kernel, rfl⟩
theorem dd_X0_placeFrom_57 : jd cX0_placeFrom 57 (.iload 6) 2 59 := ⟨by decide +kernel, rfl⟩
theorem dd_X0_placeFrom_59 : jd cX0_placeFrom 59 (.iconst 1) 1 60 := ⟨by decide +kernel, rfl⟩
theorem dd_X0_placeFrom_60 : jd cX0_placeFrom 60 (.iadd) 1 61 := ⟨by decide +kernel, rfl⟩
theorem dd_X0_placeFrom_61 : jd cX0_placeFrom 61 (.iload 5) 2 63 := ⟨by decide +kernel, rfl⟩
theorem dd_X0_placeFrom_63 : jd cX0_placeFrom 63 (.isub) 1 64 := ⟨by decide +kernel, rfl⟩
theorem ml_RX0_50 : (Cond.methodLink "MothCustoms$Search" 50 Lib.Math.max.name : Cond) ∈ jj_tb := jj_m (List.mem_of_getElem? (i := 647) (by decide +kernel)) rfl
theorem dd_X0_placeFrom_64 : jd cX0_placeFrom 64 (.invokestatic 50) 3 67 := ⟨by decide +kernel, rfl⟩
theorem dd_X0_placeFrom_67 : jd cX0_placeFrom 67 (.istore 8) 2 69 := ⟨by decide +kernel, rfl⟩
theorem dd_X0_placeFrom_69 : jd cX0_placeFrom 69 (.aload_n 0) 1 70 := ⟨by decide +kernel, rfl⟩
theorem fl_RX0_36 : (Cond.fieldLink "MothCustoms$Search" 36 "MothCustoms$Search" "taken" "I" : Cond) ∈ jj_tb := jj_m (List.mem_of_getElem? (i := 253) (by decide +kernel)) rfl
theorem dd_X0_placeFrom_70 : jd cX0_placeFrom 70 (.getfield 36) 3 73 := ⟨by decide +kernel, rfl⟩
theorem dd_X0_placeFrom_73 : jd cX0_placeFrom 73 (.iload 7) 2 75 := ⟨by decide +kernel, rfl⟩
theorem dd_X0_placeFrom_75 : jd cX0_placeFrom 75 (.ishr) 1 76 := ⟨by decide +kernel, rfl⟩
theorem dd_X0_placeFrom_76 : jd cX0_placeFrom 76 (.iconst 1) 1 77 := ⟨by decide +kernel, rfl⟩
theorem dd_X0_placeFrom_77 : jd cX0_placeFrom 77 (.iand) 1 78 := ⟨by decide +kernel, rfl⟩
theorem dd_X0_placeFrom_78 : jd cX0_placeFrom 78 (.iconst 1) 1 79 := ⟨by decide +kernel, rfl⟩
theorem dd_X0_placeFrom_82 : jd cX0_placeFrom 82 (.iload_n 3) 1 83 := ⟨by decide +kernel, rfl⟩
theorem dd_X0_placeFrom_83 : jd cX0_placeFrom 83 (.iload 8) 2 85 := ⟨by decide +kernel, rfl⟩
theorem dd_X0_placeFrom_85 : jd cX0_placeFrom 85 (.iadd) 1 86 := ⟨by decide +kernel, rfl⟩
theorem dd_X0_placeFrom_86 : jd cX0_placeFrom 86 (.aload_n 1) 1 87 := ⟨by decide +kernel, rfl⟩
theorem dd_X0_placeFrom_87 : jd cX0_placeFrom 87 (.getfield 43) 3 90 := ⟨by decide +kernel, rfl⟩
theorem dd_X0_placeFrom_93 : jd cX0_placeFrom 93 (.aload_n 0) 1 94 := ⟨by decide +kernel, rfl⟩
theorem dd_X0_placeFrom_94 : jd cX0_placeFrom 94 (.getfield 32) 3 97 := ⟨by decide +kernel, rfl⟩
theorem dd_X0_placeFrom_103 : jd cX0_placeFrom 103 (.aload_n 0) 1 104 := ⟨by decide +kernel, rfl⟩
theorem dd_X0_placeFrom_104 : jd cX0_placeFrom 104 (.dup) 1 105 := ⟨by decide +kernel, rfl⟩
theorem dd_X0_placeFrom_105 : jd cX0_placeFrom 105 (.getfield 36) 3 108 := ⟨by decide +kernel, rfl⟩
theorem dd_X0_placeFrom_108 : jd cX0_placeFrom 108 (.iconst 1) 1 109 := ⟨by decide +kernel, rfl⟩
theorem dd_X0_placeFrom_109 : jd cX0_placeFrom 109 (.iload 7) 2 111 := ⟨by decide +kernel, rfl⟩
theorem dd_X0_placeFrom_111 : jd cX0_placeFrom 111 (.ishl) 1 112 := ⟨by decide +kernel, rfl⟩
theorem dd_X0_placeFrom_112 : jd cX0_placeFrom 112 (.ior) 1 113 := ⟨by decide +kernel, rfl⟩
theorem dd_X0_placeFrom_113 : jd cX0_placeFrom 113 (.putfield 36) 3 116 := ⟨by decide +kernel, rfl⟩
theorem dd_X0_placeFrom_116 : jd cX0_placeFrom 116 (.aload_n 0) 1 117 := ⟨by decide +kernel, rfl⟩
theorem dd_X0_placeFrom_117 : jd cX0_placeFrom 117 (.getfield 12) 3 120 := ⟨by decide +kernel, rfl⟩
theorem fl_RX0_56 : (Cond.fieldLink "MothCustoms$Search" 56 "MothCustoms$Shed" "lying" "[I" : Cond) ∈ jj_tb := jj_m (List.mem_of_getElem? (i := 150) (by decide +kernel)) rfl
theorem dd_X0_placeFrom_120 : jd cX0_placeFrom 120 (.getfield 56) 3 123 := ⟨by decide +kernel, rfl⟩
theorem dd_X0_placeFrom_123 : jd cX0_placeFrom 123 (.iload 7) 2 125 := ⟨by decide +kernel, rfl⟩
theorem dd_X0_placeFrom_125 : jd cX0_placeFrom 125 (.iload_n 2) 1 126 := ⟨by decide +kernel, rfl⟩
theorem dd_X0_placeFrom_126 : jd cX0_placeFrom 126 (.iastore) 1 127 := ⟨by decide +kernel, rfl⟩
theorem dd_X0_placeFrom_127 : jd cX0_placeFrom 127 (.aload_n 0) 1 128 := ⟨by decide +kernel, rfl⟩
theorem dd_X0_placeFrom_128 : jd cX0_placeFrom 128 (.getfield 12) 3 131 := ⟨by decide +kernel, rfl⟩
theorem dd_X0_placeFrom_131 : jd cX0_placeFrom 131 (.getfield 29) 3 134 := ⟨by decide +kernel, rfl⟩
theorem dd_X0_placeFrom_134 : jd cX0_placeFrom 134 (.iload 4) 2 136 := ⟨by decide +kernel, rfl⟩
theorem dd_X0_placeFrom_136 : jd cX0_placeFrom 136 (.iload 5) 2 138 := ⟨by decide +kernel, rfl⟩
theorem dd_X0_placeFrom_138 : jd cX0_placeFrom 138 (.iload 8) 2 140 := ⟨by decide +kernel, rfl⟩
theorem dd_X0_placeFrom_140 : jd cX0_placeFrom 140 (.iadd) 1 141 := ⟨by decide +kernel, rfl⟩
theorem dd_X0_placeFrom_141 : jd cX0_placeFrom 141 (.iastore) 1 142 := ⟨by decide +kernel, rfl⟩
theorem dd_X0_placeFrom_142 : jd cX0_placeFrom 142 (.aload_n 0) 1 143 := ⟨by decide +kernel, rfl⟩
theorem dd_X0_placeFrom_143 : jd cX0_placeFrom 143 (.getfield 18) 3 146 := ⟨by decide +kernel, rfl⟩
theorem dd_X0_placeFrom_146 : jd cX0_placeFrom 146 (.iload_n 2) 1 147 := ⟨by decide +kernel, rfl⟩
theorem dd_X0_placeFrom_147 : jd cX0_placeFrom 147 (.bipush 10) 2 149 := ⟨by decide +kernel, rfl⟩
theorem dd_X0_placeFrom_149 : jd cX0_placeFrom 149 (.iload 4) 2 151 := ⟨by decide +kernel, rfl⟩
theorem dd_X0_placeFrom_151 : jd cX0_placeFrom 151 (.imul) 1 152 := ⟨by decide +kernel, rfl⟩
theorem dd_X0_placeFrom_152 : jd cX0_placeFrom 152 (.iload 6) 2 154 := ⟨by decide +kernel, rfl⟩
theorem dd_X0_placeFrom_154 : jd cX0_placeFrom 154 (.iadd) 1 155 := ⟨by decide +kernel, rfl⟩
theorem dd_X0_placeFrom_155 : jd cX0_placeFrom 155 (.iastore) 1 156 := ⟨by decide +kernel, rfl⟩
theorem dd_X0_placeFrom_156 : jd cX0_placeFrom 156 (.aload_n 0) 1 157 := ⟨by decide +kernel, rfl⟩
theorem dd_X0_placeFrom_157 : jd cX0_placeFrom 157 (.aload_n 1) 1 158 := ⟨by decide +kernel, rfl⟩
theorem dd_X0_placeFrom_158 : jd cX0_placeFrom 158 (.iload_n 2) 1 159 := ⟨by decide +kernel, rfl⟩
theorem dd_X0_placeFrom_159 : jd cX0_placeFrom 159 (.iconst 1) 1 160 := ⟨by decide +kernel, rfl⟩
theorem dd_X0_placeFrom_160 : jd cX0_placeFrom 160 (.iadd) 1 161 := ⟨by decide +kernel, rfl⟩
theorem dd_X0_placeFrom_161 : jd cX0_placeFrom 161 (.iload_n 3) 1 162 := ⟨by decide +kernel, rfl⟩
theorem dd_X0_placeFrom_162 : jd cX0_placeFrom 162 (.iload 8) 2 164 := ⟨by decide +kernel, rfl⟩
theorem dd_X0_placeFrom_164 : jd cX0_placeFrom 164 (.iadd) 1 165 := ⟨by decide +kernel, rfl⟩
theorem ml_RX0_39 : (Cond.methodLink "MothCustoms$Search" 39 yX0_placeFrom : Cond) ∈ jj_tb := jj_m (List.mem_of_getElem? (i := 637) (by decide +kernel)) rfl
theorem m_X0_placeFrom : jmS yX0_placeFrom cX0_placeFrom 9 none 4 := ⟨(jj_m (w := Cond.code yX0_placeFrom cX0_placeFrom 9 none) (List.mem_of_getElem? (i := 639) (by decide +kernel)) rfl), (jj_m (w := Cond.initialized yX0_placeFrom.cls) (List.mem_of_getElem? (i := 68) (by decide +kernel)) rfl), ⟨by decide, by decide⟩, by decide +kernel⟩
theorem s_X0_placeFrom : (Cond.static yX0_placeFrom : Cond) ∈ jj_tb := (jj_m (w := Cond.static yX0_placeFrom) (List.mem_of_getElem? (i := 638) (by decide +kernel)) rfl)
theorem dd_X0_placeFrom_165 : jd cX0_placeFrom 165 (.invokestatic 39) 3 168 := ⟨by decide +kernel, rfl⟩
theorem dd_X0_placeFrom_168 : jd cX0_placeFrom 168 (.aload_n 0) 1 169 := ⟨by decide +kernel, rfl⟩
theorem dd_X0_placeFrom_169 : jd cX0_placeFrom 169 (.getfield 12) 3 172 := ⟨by decide +kernel, rfl⟩
theorem dd_X0_placeFrom_172 : jd cX0_placeFrom 172 (.getfield 29) 3 175 := ⟨by decide +kernel, rfl⟩
theorem dd_X0_placeFrom_175 : jd cX0_placeFrom 175 (.iload 4) 2 177 := ⟨by decide +kernel, rfl⟩
theorem dd_X0_placeFrom_177 : jd cX0_placeFrom 177 (.iload 5) 2 179 := ⟨by decide +kernel, rfl⟩
theorem dd_X0_placeFrom_179 : jd cX0_placeFrom 179 (.iastore) 1 180 := ⟨by decide +kernel, rfl⟩
theorem dd_X0_placeFrom_180 : jd cX0_placeFrom 180 (.aload_n 0) 1 181 := ⟨by decide +kernel, rfl⟩
theorem dd_X0_placeFrom_181 : jd cX0_placeFrom 181 (.dup) 1 182 := ⟨by decide +kernel, rfl⟩
theorem dd_X0_placeFrom_182 : jd cX0_placeFrom 182 (.getfield 36) 3 185 := ⟨by decide +kernel, rfl⟩
theorem dd_X0_placeFrom_185 : jd cX0_placeFrom 185 (.iconst 1) 1 186 := ⟨by decide +kernel, rfl⟩
theorem dd_X0_placeFrom_186 : jd cX0_placeFrom 186 (.iload 7) 2 188 := ⟨by decide +kernel, rfl⟩
theorem dd_X0_placeFrom_188 : jd cX0_placeFrom 188 (.ishl) 1 189 := ⟨by decide +kernel, rfl⟩
theorem dd_X0_placeFrom_189 : jd cX0_placeFrom 189 (.iconst (-1)) 1 190 := ⟨by decide +kernel, rfl⟩
theorem dd_X0_placeFrom_190 : jd cX0_placeFrom 190 (.ixor) 1 191 := ⟨by decide +kernel, rfl⟩
theorem dd_X0_placeFrom_191 : jd cX0_placeFrom 191 (.iand) 1 192 := ⟨by decide +kernel, rfl⟩
theorem dd_X0_placeFrom_192 : jd cX0_placeFrom 192 (.putfield 36) 3 195 := ⟨by decide +kernel, rfl⟩
theorem dd_X0_placeFrom_100 : jd cX0_placeFrom 100 (.goto 95) 3 103 := ⟨by decide +kernel, rfl⟩
theorem dd_X0_placeFrom_97 : jd cX0_placeFrom 97 (.ifCond .ne 6) 3 100 := ⟨by decide +kernel, rfl⟩
theorem dd_X0_placeFrom_90 : jd cX0_placeFrom 90 (.if_icmp .gt 105) 3 93 := ⟨by decide +kernel, rfl⟩
theorem dd_X0_placeFrom_79 : jd cX0_placeFrom 79 (.if_icmp .eq 116) 3 82 := ⟨by decide +kernel, rfl⟩
theorem dd_X0_placeFrom_195 : jd cX0_placeFrom 195 (.iinc 6 1) 3 198 := ⟨by decide +kernel, rfl⟩
theorem dd_X0_placeFrom_198 : jd cX0_placeFrom 198 (.goto (-160)) 3 201 := ⟨by decide +kernel, rfl⟩
theorem dd_X0_placeFrom_44 : jd cX0_placeFrom 44 (.if_icmp .ge 157) 3 47 := ⟨by decide +kernel, rfl⟩
theorem dd_X0_placeFrom_201 : jd cX0_placeFrom 201 (.iinc 4 1) 3 204 := ⟨by decide +kernel, rfl⟩
theorem dd_X0_placeFrom_204 : jd cX0_placeFrom 204 (.goto (-187)) 3 207 := ⟨by decide +kernel, rfl⟩
theorem dd_X0_placeFrom_20 : jd cX0_placeFrom 20 (.if_icmp .ge 187) 3 23 := ⟨by decide +kernel, rfl⟩
theorem dd_X0_placeFrom_207 : jd cX0_placeFrom 207 (.return_) 1 208 := ⟨by decide +kernel, rfl⟩
theorem dd_X0_placeFrom_8 : jd cX0_placeFrom 8 (.aload_n 0) 1 9 := ⟨by decide +kernel, rfl⟩
theorem dd_X0_placeFrom_9 : jd cX0_placeFrom 9 (.aload_n 1) 1 10 := ⟨by decide +kernel, rfl⟩
theorem ml_RX0_46 : (Cond.methodLink "MothCustoms$Search" 46 yX0_weighFolding : Cond) ∈ jj_tb := jj_m (List.mem_of_getElem? (i := 640) (by decide +kernel)) rfl
theorem dd_X0_placeFrom_10 : jd cX0_placeFrom 10 (.invokestatic 46) 3 13 := ⟨by decide +kernel, rfl⟩
theorem dd_X0_placeFrom_13 : jd cX0_placeFrom 13 (.return_) 1 14 := ⟨by decide +kernel, rfl⟩
theorem dd_X0_placeFrom_5 : jd cX0_placeFrom 5 (.if_icmp .lt 9) 3 8 := ⟨by decide +kernel, rfl⟩
def fX0_placeFrom_L38 (T : M2) (S : M2) (i2 : Int32) (i3 : Int32) (N : M2) (self : Int32 → Int32 → M2 → M2 → Option (M2 × M2)) (v1 : Int32) (x4 : Int32) (k201 : (M2 × M2) → Option (M2 × M2)) : Nat → Int32 → M2 → M2 → Option (M2 × M2)
  | 0, _, _, _ => none
  | n_ + 1, v5, T6, S7 =>
    if (N 0 0) ≤ v5 then
      k201 (T6, S7)
    else
      lt (((v1 * (5 : Int32)) + v5)) fun x8 =>
      lt ((if (0 : Int32) < ((v5 + (1 : Int32)) - x4) then ((v5 + (1 : Int32)) - x4) else (0 : Int32))) fun x9 =>
      jn (α := Option (M2 × M2)) (β := M2 × M2) (fun j10 =>
        if (((T6 4 0) >>> (x8 &&& 31)) &&& (1 : Int32)) = (1 : Int32) then
          j10 (T6, S7)
        else
          if (N 0 0) < (i3 + x9) then
            j10 (T6, S7)
          else
            if (T6 3 0) = 0 then
              j10 (T6, S7)
            else
              lt (va_up T6 4 (fun _ => ((T6 4 0) ||| ((1 : Int32) <<< (x8 &&& 31))))) fun T11 =>
              bnd x8 15 <|
              lt (va_up S7 5 (upd (S7 5) x8.toNatClampNeg i2)) fun S12 =>
              bnd v1 3 <|
              lt (va_up S12 6 (upd (S12 6) v1.toNatClampNeg (x4 + x9))) fun S13 =>
              bnd i2 5 <|
              lt (va_up T11 1 (upd (T11 1) i2.toNatClampNeg (((10 : Int32) * v1) + v5))) fun T14 =>
              (self (i2 + (1 : Int32)) (i3 + x9) T14 S13).bind fun q15 =>
              lt q15.1 fun T16 => lt q15.2 fun S17 =>
              bnd v1 3 <|
              lt (va_up S17 6 (upd (S17 6) v1.toNatClampNeg x4)) fun S18 =>
              lt (va_up T16 4 (fun _ => ((T16 4 0) &&& (((1 : Int32) <<< (x8 &&& 31)) ^^^ (-1 : Int32))))) fun T19 =>
              j10 (T19, S18)) (fun p23 => 
        lt (v5 + (1 : Int32)) fun x24 =>
        fX0_placeFrom_L38 T S i2 i3 N self v1 x4 k201 n_ x24 p23.1 p23.2)

def fX0_placeFrom_L17 (T : M2) (S : M2) (i2 : Int32) (i3 : Int32) (N : M2) (self : Int32 → Int32 → M2 → M2 → Option (M2 × M2)) (k207 : (M2 × M2) → Option (M2 × M2)) : Nat → Int32 → M2 → M2 → Option (M2 × M2)
  | 0, _, _, _ => none
  | n_ + 1, v1, T2, S3 =>
    if (3 : Int32) ≤ v1 then
      k207 (T2, S3)
    else
      bnd v1 3 <|
      lt ((S3 6 v1.toNatClampNeg)) fun x4 =>
      fX0_placeFrom_L38 T S i2 i3 N self v1 x4
        (fun p26 =>
          lt (v1 + (1 : Int32)) fun x27 =>
          fX0_placeFrom_L17 T S i2 i3 N self k207 n_ x27 p26.1 p26.2)
        400 (0 : Int32) T2 S3

def fX0_placeFrom : Nat → Int32 → Int32 → M2 → M2 → M2 → Option (M2 × M2)
  | 0, _, _, _, _, _ => none
  | n_ + 1, i2, i3, T, S, N =>
    if i2 < (N 0 0) then
      fX0_placeFrom_L17 T S i2 i3 N (fun i2 i3 T S => fX0_placeFrom n_ i2 i3 T S N)
        (fun p29 =>
          some (p29.1, p29.2))
        400 (0 : Int32) T S
    else
      (fX0_weighFolding  T S N).bind fun q30 =>
      lt q30.1 fun T31 => lt q30.2 fun S32 =>
      some (T31, S32)

set_option maxHeartbeats 4000000 in
set_option maxRecDepth 100000 in
theorem tX0_placeFrom_L38 {V : JV (M2 × M2)} {b : Nat} {a : Nat → Nat} {b2 : Nat} {a2 : Nat → Nat} {b3 : Nat} {a3 : Nat → Nat} {N : M2} (hv1 : v1X0 V b a b2) (hv2 : v2X1 V b2 a2) (hr : rX1 V b3 a3 N) (T : M2) (S : M2) (i2 : Int32) (i3 : Int32) (self : Int32 → Int32 → M2 → M2 → Option (M2 × M2)) (v1 : Int32) (x4 : Int32) {E : JE (M2 × M2) Unit} {d dS : Nat} (hE : JOk V E cX0_placeFrom yX0_placeFrom.cls 9 d none jj_v) (hd0 : 5 ≤ d) (hdS : dS + 1 ≤ d) (hself : ∀ (T S : M2) (i2 i3 : Int32), JC E.2.1 V yX0_placeFrom cX0_placeFrom 9 none jj_v dS [.ref b, .ref b3, .int i2, .int i3] (T, S) ((self i2 i3 T S).map (fun q => ((), q)))) {k201 : (M2 × M2) → Option (M2 × M2)} (hk201 : ∀ p, J V E (fun q => ((), q)) (k201 p) 201 [(0, .ref b), (1, .ref b3), (2, .int i2), (3, .int i3), (4, .int v1)] [] (p.1, p.2)) : ∀ (n_ : Nat) (v5 : Int32) (T6 : M2) (S7 : M2), J V E (fun q => ((), q)) (fX0_placeFrom_L38 T S i2 i3 N self v1 x4 k201 n_ v5 T6 S7) 38 [(0, .ref b), (1, .ref b3), (2, .int i2), (3, .int i3), (4, .int v1), (5, .int x4), (6, .int v5)] [] (T6, S7) := by
  intro n_
  induction n_ with
  | zero =>
    intros
    exact J_none
  | succ n_ ih =>
    intros v5 T6 S7
    rw [fX0_placeFrom_L38]
    refine J_iload hE dd_X0_placeFrom_38 6 rfl ?_
    refine J_aload_n hE dd_X0_placeFrom_40 1 rfl rfl ?_
    refine J_get hE (hr.ob _) jc_X1 0 (by decide) fl_RX0_43 (v := .int (N 0 0)) rfl dd_X0_placeFrom_41 ?_
    refine J_icmp_ge hE (tgt := 201) dd_X0_placeFrom_44 (by decide) (fun c25 => ?_) (fun c25 => ?_)
    · refine J_sub [0, 1, 2, 3, 4] rfl ?_
      exact hk201 (T6, S7)
    · refine J_iload hE dd_X0_placeFrom_47 4 rfl ?_
      refine J_iconst hE (v := (5 : Int32)) dd_X0_placeFrom_49 (by decide) ?_
      refine J_imul hE dd_X0_placeFrom_50 ?_
      refine J_iload hE dd_X0_placeFrom_51 6 rfl ?_
      refine J_iadd hE dd_X0_placeFrom_53 ?_
      refine J_leti (fun x8 => ?_)
      refine J_istore hE (L' := [(7, .int x8), (0, .ref b), (1, .ref b3), (2, .int i2), (3, .int i3), (4, .int v1), (5, .int x4), (6, .int v5)]) dd_X0_placeFrom_54 (Nat.le_of_ble_eq_true rfl) rfl ?_
      refine J_iconst hE (v := (0 : Int32)) dd_X0_placeFrom_56 (by decide) ?_
      refine J_iload hE dd_X0_placeFrom_57 7 rfl ?_
      refine J_iconst hE (v := (1 : Int32)) dd_X0_placeFrom_59 (by decide) ?_
      refine J_iadd hE dd_X0_placeFrom_60 ?_
      refine J_iload hE dd_X0_placeFrom_61 6 rfl ?_
      refine J_isub hE dd_X0_placeFrom_63 ?_
      refine J_max hE ml_RX0_50 (Nat.le_trans (Nat.le_of_ble_eq_true rfl) (Nat.mul_le_mul_left 60 hd0)) (Nat.le_trans (Nat.le_of_ble_eq_true rfl) hd0) dd_X0_placeFrom_64 ?_
      refine J_leti (fun x9 => ?_)
      refine J_istore hE (L' := [(8, .int x9), (7, .int x8), (0, .ref b), (1, .ref b3), (2, .int i2), (3, .int i3), (4, .int v1), (5, .int x4), (6, .int v5)]) dd_X0_placeFrom_67 (Nat.le_of_ble_eq_true rfl) rfl ?_
      refine J_aload_n hE dd_X0_placeFrom_69 2 rfl rfl ?_
      refine J_get hE (hv1.ob _) jc_X0 4 (by decide) fl_RX0_36 (v := .int (T6 4 0)) rfl dd_X0_placeFrom_70 ?_
      refine J_iload hE dd_X0_placeFrom_73 1 rfl ?_
      refine J_ishr hE dd_X0_placeFrom_75 ?_
      refine J_iconst hE (v := (1 : Int32)) dd_X0_placeFrom_76 (by decide) ?_
      refine J_iand hE dd_X0_placeFrom_77 ?_
      refine J_iconst hE (v := (1 : Int32)) dd_X0_placeFrom_78 (by decide) ?_
      refine J_jn (m := 195) (Lf := fun p23 => [(0, .ref b), (1, .ref b3), (2, .int i2), (3, .int i3), (4, .int v1), (5, .int x4), (6, .int v5)]) (sf := fun p23 => []) (Xf := fun p23 => (p23.1, p23.2)) (fun p23 => ?_) (fun hj10 => ?_)
      · show J V E _ _ 195 [(0, .ref b), (1, .ref b3), (2, .int i2), (3, .int i3), (4, .int v1), (5, .int x4), (6, .int v5)] [] (p23.1, p23.2)
        refine J_iincL hE (v := (v5 + (1 : Int32))) (Lf := fun x24 => [(6, .int x24), (0, .ref b), (1, .ref b3), (2, .int i2), (3, .int i3), (4, .int v1), (5, .int x4)]) dd_X0_placeFrom_195 (j := 6) rfl (congrArg (v5 + ·) (by decide)) (Nat.le_of_ble_eq_true rfl) (fun _ => rfl) (fun x24 => ?_)
        refine J_goto hE (tgt := 38) dd_X0_placeFrom_198 (by decide) ?_
        refine J_sub [1, 2, 3, 4, 5, 6, 0] rfl ?_
        exact ih x24 p23.1 p23.2
      · refine J_icmp_eq hE (tgt := 195) dd_X0_placeFrom_79 (by decide) (fun c22 => ?_) (fun c22 => ?_)
        · refine J_sub [2, 3, 4, 5, 6, 7, 8] rfl ?_
          exact hj10 (T6, S7)
        · refine J_iload_n hE dd_X0_placeFrom_82 5 rfl rfl ?_
          refine J_iload hE dd_X0_placeFrom_83 0 rfl ?_
          refine J_iadd hE dd_X0_placeFrom_85 ?_
          refine J_aload_n hE dd_X0_placeFrom_86 3 rfl rfl ?_
          refine J_get hE (hr.ob _) jc_X1 0 (by decide) fl_RX0_43 (v := .int (N 0 0)) rfl dd_X0_placeFrom_87 ?_
          refine J_icmp_gt hE (tgt := 195) dd_X0_placeFrom_90 (by decide) (fun c21 => ?_) (fun c21 => ?_)
          · refine J_sub [2, 3, 4, 5, 6, 7, 8] rfl ?_
            exact hj10 (T6, S7)
          · refine J_aload_n hE dd_X0_placeFrom_93 2 rfl rfl ?_
            refine J_get hE (hv1.ob _) jc_X0 3 (by decide) fl_RX0_32 (v := .int (T6 3 0)) rfl dd_X0_placeFrom_94 ?_
            refine J_if_ne hE (tgt := 103) dd_X0_placeFrom_97 (by decide) (fun c20 => ?_) (fun c20 => ?_)
            · refine J_aload_n hE dd_X0_placeFrom_103 2 rfl rfl ?_
              refine J_dup hE dd_X0_placeFrom_104 rfl ?_
              refine J_get hE (hv1.ob _) jc_X0 4 (by decide) fl_RX0_36 (v := .int (T6 4 0)) rfl dd_X0_placeFrom_105 ?_
              refine J_iconst hE (v := (1 : Int32)) dd_X0_placeFrom_108 (by decide) ?_
              refine J_iload hE dd_X0_placeFrom_109 1 rfl ?_
              refine J_ishl hE dd_X0_placeFrom_111 ?_
              refine J_ior hE dd_X0_placeFrom_112 ?_
              refine J_put hE hv1 jc_X0 4 (by decide) (by decide) fl_RX0_36 rfl rfl rfl (Nat.le_of_ble_eq_true rfl) dd_X0_placeFrom_113 ?_
              refine J_let1 (S := S7) (fun T11 => ?_)
              refine J_aload_n hE dd_X0_placeFrom_116 2 rfl rfl ?_
              refine J_get hE (hv1.ob _) jc_X0 0 (by decide) fl_RX0_12 (v := .ref b2) rfl dd_X0_placeFrom_117 ?_
              refine J_get hE (hv2.ob _) jc_X1 5 (by decide) fl_RX0_56 (v := .ref (a2 5)) rfl dd_X0_placeFrom_120 ?_
              refine J_iload hE dd_X0_placeFrom_123 1 rfl ?_
              refine J_iload_n hE dd_X0_placeFrom_125 4 rfl rfl ?_
              refine J_ast hE hv2 5 (N := 15) (by decide) dd_X0_placeFrom_126 ?_
              refine J_let2 (T := T11) (fun S12 => ?_)
              refine J_aload_n hE dd_X0_placeFrom_127 2 rfl rfl ?_
              refine J_get hE (hv1.ob _) jc_X0 0 (by decide) fl_RX0_12 (v := .ref b2) rfl dd_X0_placeFrom_128 ?_
              refine J_get hE (hv2.ob _) jc_X1 6 (by decide) fl_RX0_29 (v := .ref (a2 6)) rfl dd_X0_placeFrom_131 ?_
              refine J_iload hE dd_X0_placeFrom_134 6 rfl ?_
              refine J_iload hE dd_X0_placeFrom_136 7 rfl ?_
              refine J_iload hE dd_X0_placeFrom_138 0 rfl ?_
              refine J_iadd hE dd_X0_placeFrom_140 ?_
              refine J_ast hE hv2 6 (N := 3) (by decide) dd_X0_placeFrom_141 ?_
              refine J_let2 (T := T11) (fun S13 => ?_)
              refine J_aload_n hE dd_X0_placeFrom_142 2 rfl rfl ?_
              refine J_get hE (hv1.ob _) jc_X0 1 (by decide) fl_RX0_18 (v := .ref (a 1)) rfl dd_X0_placeFrom_143 ?_
              refine J_iload_n hE dd_X0_placeFrom_146 4 rfl rfl ?_
              refine J_bipush hE (v := (10 : Int32)) dd_X0_placeFrom_147 (by decide) ?_
              refine J_iload hE dd_X0_placeFrom_149 6 rfl ?_
              refine J_imul hE dd_X0_placeFrom_151 ?_
              refine J_iload hE dd_X0_placeFrom_152 8 rfl ?_
              refine J_iadd hE dd_X0_placeFrom_154 ?_
              refine J_ast hE hv1 1 (N := 5) (by decide) dd_X0_placeFrom_155 ?_
              refine J_let1 (S := S13) (fun T14 => ?_)
              refine J_aload_n hE dd_X0_placeFrom_156 2 rfl rfl ?_
              refine J_aload_n hE dd_X0_placeFrom_157 3 rfl rfl ?_
              refine J_iload_n hE dd_X0_placeFrom_158 4 rfl rfl ?_
              refine J_iconst hE (v := (1 : Int32)) dd_X0_placeFrom_159 (by decide) ?_
              refine J_iadd hE dd_X0_placeFrom_160 ?_
              refine J_iload_n hE dd_X0_placeFrom_161 5 rfl rfl ?_
              refine J_iload hE dd_X0_placeFrom_162 0 rfl ?_
              refine J_iadd hE dd_X0_placeFrom_164 ?_
              refine J_invSwv hE (e := fun x => x) (As := [.ref b, .ref b3, .int (i2 + (1 : Int32)), .int (i3 + x9)]) (st := []) (hself T14 S13 (i2 + (1 : Int32)) (i3 + x9)) m_X0_placeFrom s_X0_placeFrom rfl ml_RX0_39 hdS (Nat.le_of_ble_eq_true rfl) rfl (Nat.le_of_ble_eq_true rfl) dd_X0_placeFrom_165 (fun q15 => ?_)
              refine J_letP (fun T16 S17 => ?_)
              refine J_aload_n hE dd_X0_placeFrom_168 2 rfl rfl ?_
              refine J_get hE (hv1.ob _) jc_X0 0 (by decide) fl_RX0_12 (v := .ref b2) rfl dd_X0_placeFrom_169 ?_
              refine J_get hE (hv2.ob _) jc_X1 6 (by decide) fl_RX0_29 (v := .ref (a2 6)) rfl dd_X0_placeFrom_172 ?_
              refine J_iload hE dd_X0_placeFrom_175 6 rfl ?_
              refine J_iload hE dd_X0_placeFrom_177 7 rfl ?_
              refine J_ast hE hv2 6 (N := 3) (by decide) dd_X0_placeFrom_179 ?_
              refine J_let2 (T := T16) (fun S18 => ?_)
              refine J_aload_n hE dd_X0_placeFrom_180 2 rfl rfl ?_
              refine J_dup hE dd_X0_placeFrom_181 rfl ?_
              refine J_get hE (hv1.ob _) jc_X0 4 (by decide) fl_RX0_36 (v := .int (T16 4 0)) rfl dd_X0_placeFrom_182 ?_
              refine J_iconst hE (v := (1 : Int32)) dd_X0_placeFrom_185 (by decide) ?_
              refine J_iload hE dd_X0_placeFrom_186 1 rfl ?_
              refine J_ishl hE dd_X0_placeFrom_188 ?_
              refine J_iconst hE (v := (-1 : Int32)) dd_X0_placeFrom_189 (by decide) ?_
              refine J_ixor hE dd_X0_placeFrom_190 ?_
              refine J_iand hE dd_X0_placeFrom_191 ?_
              refine J_put hE hv1 jc_X0 4 (by decide) (by decide) fl_RX0_36 rfl rfl rfl (Nat.le_of_ble_eq_true rfl) dd_X0_placeFrom_192 ?_
              refine J_let1 (S := S18) (fun T19 => ?_)
              refine J_sub [2, 3, 4, 5, 6, 7, 8] rfl ?_
              exact hj10 (T19, S18)
            · refine J_goto hE (tgt := 195) dd_X0_placeFrom_100 (by decide) ?_
              refine J_sub [2, 3, 4, 5, 6, 7, 8] rfl ?_
              exact hj10 (T6, S7)
set_option maxHeartbeats 4000000 in
set_option maxRecDepth 100000 in
theorem tX0_placeFrom_L17 {V : JV (M2 × M2)} {b : Nat} {a : Nat → Nat} {b2 : Nat} {a2 : Nat → Nat} {b3 : Nat} {a3 : Nat → Nat} {N : M2} (hv1 : v1X0 V b a b2) (hv2 : v2X1 V b2 a2) (hr : rX1 V b3 a3 N) (T : M2) (S : M2) (i2 : Int32) (i3 : Int32) (self : Int32 → Int32 → M2 → M2 → Option (M2 × M2)) {E : JE (M2 × M2) Unit} {d dS : Nat} (hE : JOk V E cX0_placeFrom yX0_placeFrom.cls 9 d none jj_v) (hd0 : 5 ≤ d) (hdS : dS + 1 ≤ d) (hself : ∀ (T S : M2) (i2 i3 : Int32), JC E.2.1 V yX0_placeFrom cX0_placeFrom 9 none jj_v dS [.ref b, .ref b3, .int i2, .int i3] (T, S) ((self i2 i3 T S).map (fun q => ((), q)))) {k207 : (M2 × M2) → Option (M2 × M2)} (hk207 : ∀ p, J V E (fun q => ((), q)) (k207 p) 207 [] [] (p.1, p.2)) : ∀ (n_ : Nat) (v1 : Int32) (T2 : M2) (S3 : M2), J V E (fun q => ((), q)) (fX0_placeFrom_L17 T S i2 i3 N self k207 n_ v1 T2 S3) 17 [(0, .ref b), (1, .ref b3), (2, .int i2), (3, .int i3), (4, .int v1)] [] (T2, S3) := by
  intro n_
  induction n_ with
  | zero =>
    intros
    exact J_none
  | succ n_ ih =>
    intros v1 T2 S3
    rw [fX0_placeFrom_L17]
    refine J_iload hE dd_X0_placeFrom_17 4 rfl ?_
    refine J_iconst hE (v := (3 : Int32)) dd_X0_placeFrom_19 (by decide) ?_
    refine J_icmp_ge hE (tgt := 207) dd_X0_placeFrom_20 (by decide) (fun c28 => ?_) (fun c28 => ?_)
    · refine J_sub [] rfl ?_
      exact hk207 (T2, S3)
    · refine J_aload_n hE dd_X0_placeFrom_23 0 rfl rfl ?_
      refine J_get hE (hv1.ob _) jc_X0 0 (by decide) fl_RX0_12 (v := .ref b2) rfl dd_X0_placeFrom_24 ?_
      refine J_get hE (hv2.ob _) jc_X1 6 (by decide) fl_RX0_29 (v := .ref (a2 6)) rfl dd_X0_placeFrom_27 ?_
      refine J_iload hE dd_X0_placeFrom_30 4 rfl ?_
      refine J_ald hE (hv2.arr 6 (n := 3) (ty := .int) (by decide) _) dd_X0_placeFrom_32 ?_
      refine J_leti (fun x4 => ?_)
      refine J_istore hE (L' := [(5, .int x4), (0, .ref b), (1, .ref b3), (2, .int i2), (3, .int i3), (4, .int v1)]) dd_X0_placeFrom_33 (Nat.le_of_ble_eq_true rfl) rfl ?_
      refine J_iconst hE (v := (0 : Int32)) dd_X0_placeFrom_35 (by decide) ?_
      refine J_istore hE (L' := [(6, .int (0 : Int32)), (5, .int x4), (0, .ref b), (1, .ref b3), (2, .int i2), (3, .int i3), (4, .int v1)]) dd_X0_placeFrom_36 (Nat.le_of_ble_eq_true rfl) rfl ?_
      refine J_sub [2, 3, 4, 5, 6, 1, 0] rfl ?_
      refine tX0_placeFrom_L38 hv1 hv2 hr T S i2 i3 self v1 x4 hE hd0 hdS hself (fun p26 => ?_) 400 (0 : Int32) T2 S3
      show J V E _ _ 201 [(0, .ref b), (1, .ref b3), (2, .int i2), (3, .int i3), (4, .int v1)] [] (p26.1, p26.2)
      refine J_iincL hE (v := (v1 + (1 : Int32))) (Lf := fun x27 => [(4, .int x27), (0, .ref b), (1, .ref b3), (2, .int i2), (3, .int i3)]) dd_X0_placeFrom_201 (j := 4) rfl (congrArg (v1 + ·) (by decide)) (Nat.le_of_ble_eq_true rfl) (fun _ => rfl) (fun x27 => ?_)
      refine J_goto hE (tgt := 17) dd_X0_placeFrom_204 (by decide) ?_
      refine J_sub [1, 2, 3, 4, 0] rfl ?_
      exact ih x27 p26.1 p26.2
set_option maxHeartbeats 4000000 in
set_option maxRecDepth 100000 in
theorem tX0_placeFrom (l : Launch) : ∀ (n_ : Nat) {V : JV (M2 × M2)} {b : Nat} {a : Nat → Nat} {b2 : Nat} {a2 : Nat → Nat} {b3 : Nat} {a3 : Nat → Nat} {N : M2} (hv1 : v1X0 V b a b2) (hv2 : v2X1 V b2 a2) (hr : rX1 V b3 a3 N) (T S : M2) (i2 : Int32) (i3 : Int32), JC l V yX0_placeFrom cX0_placeFrom 9 none jj_v (5 + n_) [.ref b, .ref b3, .int i2, .int i3] (T, S) ((fX0_placeFrom n_ i2 i3 T S N).map (fun q => ((), q))) := by
  intro n_
  induction n_ with
  | zero =>
    intros
    rw [fX0_placeFrom]
    exact JC_none
  | succ n_ ih =>
    intro V b a b2 a2 b3 a3 N hv1 hv2 hr T S i2 i3
    refine jj_of (by decide) (Nat.le_of_ble_eq_true rfl) (fun E hlE hE => ?_)
    have hself := fun (T S : M2) (i2 i3 : Int32) => ih (V := V) hv1 hv2 hr T S i2 i3
    rw [← hlE] at hself
    have hd0 : 5 ≤ 5 + (n_ + 1) := by omega
    have hdS : 5 + n_ + 1 ≤ 5 + (n_ + 1) := by omega
    rw [fX0_placeFrom]
    refine J_sub (L' := [(0, .ref b), (1, .ref b3), (2, .int i2), (3, .int i3)]) [0, 1, 2, 3] rfl ?_
    refine J_iload_n hE dd_X0_placeFrom_0 2 rfl rfl ?_
    refine J_aload_n hE dd_X0_placeFrom_1 1 rfl rfl ?_
    refine J_get hE (hr.ob _) jc_X1 0 (by decide) fl_RX0_43 (v := .int (N 0 0)) rfl dd_X0_placeFrom_2 ?_
    refine J_icmp_lt hE (tgt := 14) dd_X0_placeFrom_5 (by decide) (fun c33 => ?_) (fun c33 => ?_)
    · refine J_iconst hE (v := (0 : Int32)) dd_X0_placeFrom_14 (by decide) ?_
      refine J_istore hE (L' := [(4, .int (0 : Int32)), (0, .ref b), (1, .ref b3), (2, .int i2), (3, .int i3)]) dd_X0_placeFrom_15 (Nat.le_of_ble_eq_true rfl) rfl ?_
      refine J_sub [1, 2, 3, 4, 0] rfl ?_
      refine tX0_placeFrom_L17 hv1 hv2 hr T S i2 i3 (fun i2 i3 T S => fX0_placeFrom n_ i2 i3 T S N) hE hd0 hdS hself (fun p29 => ?_) 400 (0 : Int32) T S
      show J V E _ _ 207 [] [] (p29.1, p29.2)
      exact J_vret hE dd_X0_placeFrom_207 rfl rfl
    · refine J_aload_n hE dd_X0_placeFrom_8 0 rfl rfl ?_
      refine J_aload_n hE dd_X0_placeFrom_9 1 rfl rfl ?_
      refine J_invSwv hE (e := fun x => x) (As := [.ref b, .ref b3]) (st := []) (tX0_weighFolding E.2.1 hv1 hv2 hr T S ) m_X0_weighFolding s_X0_weighFolding rfl ml_RX0_46 (Nat.le_trans (Nat.le_of_ble_eq_true rfl) hd0) (Nat.le_of_ble_eq_true rfl) rfl (Nat.le_of_ble_eq_true rfl) dd_X0_placeFrom_10 (fun q30 => ?_)
      refine J_letP (fun T31 S32 => ?_)
      exact J_vret hE dd_X0_placeFrom_13 rfl rfl
theorem dd_X0_findBest_0 : jd cX0_findBest 0 (.aload_n 0) 1 1 := ⟨by decide +kernel, rfl⟩
theorem dd_X0_findBest_1 : jd cX0_findBest 1 (.getfield 12) 3 4 := ⟨by decide +kernel, rfl⟩
theorem dd_X0_findBest_4 : jd cX0_findBest 4 (.aload_n 1) 1 5 := ⟨by decide +kernel, rfl⟩
theorem ml_RX0_25 : (Cond.methodLink "MothCustoms$Search" 25 yX1_copyFrom : Cond) ∈ jj_tb := jj_m (List.mem_of_getElem? (i := 636) (by decide +kernel)) rfl
theorem dd_X0_findBest_5 : jd cX0_findBest 5 (.invokevirtual 25) 3 8 := ⟨by decide +kernel, rfl⟩
theorem dd_X0_findBest_8 : jd cX0_findBest 8 (.iconst 0) 1 9 := ⟨by decide +kernel, rfl⟩
theorem dd_X0_findBest_9 : jd cX0_findBest 9 (.istore_n 2) 1 10 := ⟨by decide +kernel, rfl⟩
theorem dd_X0_findBest_10 : jd cX0_findBest 10 (.iload_n 2) 1 11 := ⟨by decide +kernel, rfl⟩
theorem dd_X0_findBest_11 : jd cX0_findBest 11 (.iconst 3) 1 12 := ⟨by decide +kernel, rfl⟩
theorem dd_X0_findBest_15 : jd cX0_findBest 15 (.aload_n 0) 1 16 := ⟨by decide +kernel, rfl⟩
theorem dd_X0_findBest_16 : jd cX0_findBest 16 (.getfield 12) 3 19 := ⟨by decide +kernel, rfl⟩
theorem dd_X0_findBest_19 : jd cX0_findBest 19 (.getfield 29) 3 22 := ⟨by decide +kernel, rfl⟩
theorem dd_X0_findBest_22 : jd cX0_findBest 22 (.iload_n 2) 1 23 := ⟨by decide +kernel, rfl⟩
theorem dd_X0_findBest_23 : jd cX0_findBest 23 (.iconst 0) 1 24 := ⟨by decide +kernel, rfl⟩
theorem dd_X0_findBest_24 : jd cX0_findBest 24 (.iastore) 1 25 := ⟨by decide +kernel, rfl⟩
theorem dd_X0_findBest_25 : jd cX0_findBest 25 (.iinc 2 1) 3 28 := ⟨by decide +kernel, rfl⟩
theorem dd_X0_findBest_28 : jd cX0_findBest 28 (.goto (-18)) 3 31 := ⟨by decide +kernel, rfl⟩
theorem dd_X0_findBest_12 : jd cX0_findBest 12 (.if_icmp .ge 19) 3 15 := ⟨by decide +kernel, rfl⟩
theorem dd_X0_findBest_31 : jd cX0_findBest 31 (.aload_n 0) 1 32 := ⟨by decide +kernel, rfl⟩
theorem dd_X0_findBest_32 : jd cX0_findBest 32 (.sipush 406) 3 35 := ⟨by decide +kernel, rfl⟩
theorem dd_X0_findBest_35 : jd cX0_findBest 35 (.putfield 32) 3 38 := ⟨by decide +kernel, rfl⟩
theorem dd_X0_findBest_38 : jd cX0_findBest 38 (.aload_n 0) 1 39 := ⟨by decide +kernel, rfl⟩
theorem dd_X0_findBest_39 : jd cX0_findBest 39 (.iconst 0) 1 40 := ⟨by decide +kernel, rfl⟩
theorem dd_X0_findBest_40 : jd cX0_findBest 40 (.putfield 36) 3 43 := ⟨by decide +kernel, rfl⟩
theorem dd_X0_findBest_43 : jd cX0_findBest 43 (.aload_n 0) 1 44 := ⟨by decide +kernel, rfl⟩
theorem dd_X0_findBest_44 : jd cX0_findBest 44 (.aload_n 1) 1 45 := ⟨by decide +kernel, rfl⟩
theorem dd_X0_findBest_45 : jd cX0_findBest 45 (.iconst 0) 1 46 := ⟨by decide +kernel, rfl⟩
theorem dd_X0_findBest_46 : jd cX0_findBest 46 (.iconst 0) 1 47 := ⟨by decide +kernel, rfl⟩
theorem dd_X0_findBest_47 : jd cX0_findBest 47 (.invokestatic 39) 3 50 := ⟨by decide +kernel, rfl⟩
theorem dd_X0_findBest_50 : jd cX0_findBest 50 (.return_) 1 51 := ⟨by decide +kernel, rfl⟩
theorem m_X0_findBest : jmV yX0_findBest cX0_findBest 3 none 1 := ⟨⟨(jj_m (w := Cond.code yX0_findBest cX0_findBest 3 none) (List.mem_of_getElem? (i := 635) (by decide +kernel)) rfl), (jj_m (w := Cond.initialized yX0_findBest.cls) (List.mem_of_getElem? (i := 68) (by decide +kernel)) rfl), ⟨by decide, by decide⟩, by decide +kernel⟩, (jj_m (w := Cond.instanceMethod yX0_findBest) (List.mem_of_getElem? (i := 633) (by decide +kernel)) rfl), (jj_m (w := Cond.selects yX0_findBest.cls yX0_findBest yX0_findBest) (List.mem_of_getElem? (i := 634) (by decide +kernel)) rfl)⟩
def fX0_findBest_L10 (T : M2) (N : M2) (k31 : (M2 × M2) → Option (M2 × M2)) : Nat → Int32 → M2 → M2 → Option (M2 × M2)
  | 0, _, _, _ => none
  | n_ + 1, v3, T4, S5 =>
    if (3 : Int32) ≤ v3 then
      k31 (T4, S5)
    else
      bnd v3 3 <|
      lt (va_up S5 6 (upd (S5 6) v3.toNatClampNeg (0 : Int32))) fun S6 =>
      lt (v3 + (1 : Int32)) fun x7 =>
      fX0_findBest_L10 T N k31 n_ x7 T4 S6

def fX0_findBest  (T : M2) (S : M2) (N : M2) : Option (M2 × M2) :=
  (fX1_copyFrom  S N).bind fun q1 =>
  lt (q1) fun S2 =>
  fX0_findBest_L10 T N
    (fun p9 =>
      lt (va_up p9.1 3 (fun _ => (406 : Int32))) fun T10 =>
      lt (va_up T10 4 (fun _ => (0 : Int32))) fun T11 =>
      (fX0_placeFrom 7 (0 : Int32) (0 : Int32) T11 p9.2 N).bind fun q12 =>
      lt q12.1 fun T13 => lt q12.2 fun S14 =>
      some (T13, S14))
    400 (0 : Int32) T S2

set_option maxHeartbeats 4000000 in
set_option maxRecDepth 100000 in
theorem tX0_findBest_L10 {V : JV (M2 × M2)} {b : Nat} {a : Nat → Nat} {b2 : Nat} {a2 : Nat → Nat} {b3 : Nat} {a3 : Nat → Nat} {N : M2} (hv1 : v1X0 V b a b2) (hv2 : v2X1 V b2 a2) (hr : rX1 V b3 a3 N) (T : M2) {E : JE (M2 × M2) Unit} (hE : JOk V E cX0_findBest yX0_findBest.cls 3 13 none jj_v) {k31 : (M2 × M2) → Option (M2 × M2)} (hk31 : ∀ p, J V E (fun q => ((), q)) (k31 p) 31 [(0, .ref b), (1, .ref b3)] [] (p.1, p.2)) : ∀ (n_ : Nat) (v3 : Int32) (T4 : M2) (S5 : M2), J V E (fun q => ((), q)) (fX0_findBest_L10 T N k31 n_ v3 T4 S5) 10 [(0, .ref b), (1, .ref b3), (2, .int v3)] [] (T4, S5) := by
  intro n_
  induction n_ with
  | zero =>
    intros
    exact J_none
  | succ n_ ih =>
    intros v3 T4 S5
    rw [fX0_findBest_L10]
    refine J_iload_n hE dd_X0_findBest_10 2 rfl rfl ?_
    refine J_iconst hE (v := (3 : Int32)) dd_X0_findBest_11 (by decide) ?_
    refine J_icmp_ge hE (tgt := 31) dd_X0_findBest_12 (by decide) (fun c8 => ?_) (fun c8 => ?_)
    · refine J_sub [0, 1] rfl ?_
      exact hk31 (T4, S5)
    · refine J_aload_n hE dd_X0_findBest_15 0 rfl rfl ?_
      refine J_get hE (hv1.ob _) jc_X0 0 (by decide) fl_RX0_12 (v := .ref b2) rfl dd_X0_findBest_16 ?_
      refine J_get hE (hv2.ob _) jc_X1 6 (by decide) fl_RX0_29 (v := .ref (a2 6)) rfl dd_X0_findBest_19 ?_
      refine J_iload_n hE dd_X0_findBest_22 2 rfl rfl ?_
      refine J_iconst hE (v := (0 : Int32)) dd_X0_findBest_23 (by decide) ?_
      refine J_ast hE hv2 6 (N := 3) (by decide) dd_X0_findBest_24 ?_
      refine J_let2 (T := T4) (fun S6 => ?_)
      refine J_iincL hE (v := (v3 + (1 : Int32))) (Lf := fun x7 => [(2, .int x7), (0, .ref b), (1, .ref b3)]) dd_X0_findBest_25 (j := 2) rfl (congrArg (v3 + ·) (by decide)) (Nat.le_of_ble_eq_true rfl) (fun _ => rfl) (fun x7 => ?_)
      refine J_goto hE (tgt := 10) dd_X0_findBest_28 (by decide) ?_
      refine J_sub [1, 2, 0] rfl ?_
      exact ih x7 T4 S6
set_option maxHeartbeats 4000000 in
set_option maxRecDepth 100000 in
theorem tX0_findBest (l : Launch) {V : JV (M2 × M2)} {b : Nat} {a : Nat → Nat} {b2 : Nat} {a2 : Nat → Nat} {b3 : Nat} {a3 : Nat → Nat} {N : M2} (hv1 : v1X0 V b a b2) (hv2 : v2X1 V b2 a2) (hr : rX1 V b3 a3 N) (T : M2) (S : M2)  : JC l V yX0_findBest cX0_findBest 3 none jj_v 13 [.ref b, .ref b3] (T, S) ((fX0_findBest  T S N).map (fun q => ((), q))) := by
  refine jj_of (by decide) (Nat.le_of_ble_eq_true rfl) (fun E hlE hE => ?_)
  unfold fX0_findBest
  refine J_sub (L' := [(0, .ref b), (1, .ref b3)]) [0, 1] rfl ?_
  refine J_aload_n hE dd_X0_findBest_0 0 rfl rfl ?_
  refine J_get hE (hv1.ob _) jc_X0 0 (by decide) fl_RX0_12 (v := .ref b2) rfl dd_X0_findBest_1 ?_
  refine J_aload_n hE dd_X0_findBest_4 1 rfl rfl ?_
  refine J_invVwv hE (As := [.ref b3]) (st := []) (JC.lift_v (e := fun S => (T, S)) (tX1_copyFrom E.2.1 (v2X1s hv2 T) (rX1s hr T) S ) rfl) (hv2.ob _) m_X1_copyFrom rfl ml_RX0_25 (Nat.le_of_ble_eq_true rfl) (Nat.le_of_ble_eq_true rfl) rfl (Nat.le_of_ble_eq_true rfl) dd_X0_findBest_5 (fun q1 => ?_)
  refine J_let2 (T := T) (fun S2 => ?_)
  refine J_iconst hE (v := (0 : Int32)) dd_X0_findBest_8 (by decide) ?_
  refine J_istore_n hE (L' := [(2, .int (0 : Int32)), (0, .ref b), (1, .ref b3)]) dd_X0_findBest_9 (Nat.le_of_ble_eq_true rfl) rfl rfl ?_
  refine J_sub [1, 2, 0] rfl ?_
  refine tX0_findBest_L10 hv1 hv2 hr T hE (fun p9 => ?_) 400 (0 : Int32) T S2
  show J V E _ _ 31 [(0, .ref b), (1, .ref b3)] [] (p9.1, p9.2)
  refine J_aload_n hE dd_X0_findBest_31 0 rfl rfl ?_
  refine J_sipush hE (v := (406 : Int32)) dd_X0_findBest_32 (by decide) ?_
  refine J_put hE hv1 jc_X0 3 (by decide) (by decide) fl_RX0_32 rfl rfl rfl (Nat.le_of_ble_eq_true rfl) dd_X0_findBest_35 ?_
  refine J_let1 (S := p9.2) (fun T10 => ?_)
  refine J_aload_n hE dd_X0_findBest_38 0 rfl rfl ?_
  refine J_iconst hE (v := (0 : Int32)) dd_X0_findBest_39 (by decide) ?_
  refine J_put hE hv1 jc_X0 4 (by decide) (by decide) fl_RX0_36 rfl rfl rfl (Nat.le_of_ble_eq_true rfl) dd_X0_findBest_40 ?_
  refine J_let1 (S := p9.2) (fun T11 => ?_)
  refine J_aload_n hE dd_X0_findBest_43 0 rfl rfl ?_
  refine J_aload_n hE dd_X0_findBest_44 1 rfl rfl ?_
  refine J_iconst hE (v := (0 : Int32)) dd_X0_findBest_45 (by decide) ?_
  refine J_iconst hE (v := (0 : Int32)) dd_X0_findBest_46 (by decide) ?_
  refine J_invSwv hE (e := fun x => x) (As := [.ref b, .ref b3, .int (0 : Int32), .int (0 : Int32)]) (st := []) (tX0_placeFrom E.2.1 7 hv1 hv2 hr T11 p9.2 (0 : Int32) (0 : Int32)) m_X0_placeFrom s_X0_placeFrom rfl ml_RX0_39 (Nat.le_of_ble_eq_true rfl) (Nat.le_of_ble_eq_true rfl) rfl (Nat.le_of_ble_eq_true rfl) dd_X0_findBest_47 (fun q12 => ?_)
  refine J_letP (fun T13 S14 => ?_)
  exact J_vret hE dd_X0_findBest_50 rfl rfl
theorem dd_X0_exchange_0 : jd cX0_exchange 0 (.aload_n 0) 1 1 := ⟨by decide +kernel, rfl⟩
theorem dd_X0_exchange_1 : jd cX0_exchange 1 (.iload_n 1) 1 2 := ⟨by decide +kernel, rfl⟩
theorem dd_X0_exchange_2 : jd cX0_exchange 2 (.iaload) 1 3 := ⟨by decide +kernel, rfl⟩
theorem dd_X0_exchange_3 : jd cX0_exchange 3 (.istore_n 3) 1 4 := ⟨by decide +kernel, rfl⟩
theorem dd_X0_exchange_4 : jd cX0_exchange 4 (.aload_n 0) 1 5 := ⟨by decide +kernel, rfl⟩
theorem dd_X0_exchange_5 : jd cX0_exchange 5 (.iload_n 1) 1 6 := ⟨by decide +kernel, rfl⟩
theorem dd_X0_exchange_6 : jd cX0_exchange 6 (.aload_n 0) 1 7 := ⟨by decide +kernel, rfl⟩
theorem dd_X0_exchange_7 : jd cX0_exchange 7 (.iload_n 2) 1 8 := ⟨by decide +kernel, rfl⟩
theorem dd_X0_exchange_8 : jd cX0_exchange 8 (.iaload) 1 9 := ⟨by decide +kernel, rfl⟩
theorem dd_X0_exchange_9 : jd cX0_exchange 9 (.iastore) 1 10 := ⟨by decide +kernel, rfl⟩
theorem dd_X0_exchange_10 : jd cX0_exchange 10 (.aload_n 0) 1 11 := ⟨by decide +kernel, rfl⟩
theorem dd_X0_exchange_11 : jd cX0_exchange 11 (.iload_n 2) 1 12 := ⟨by decide +kernel, rfl⟩
theorem dd_X0_exchange_12 : jd cX0_exchange 12 (.iload_n 3) 1 13 := ⟨by decide +kernel, rfl⟩
theorem dd_X0_exchange_13 : jd cX0_exchange 13 (.iastore) 1 14 := ⟨by decide +kernel, rfl⟩
theorem dd_X0_exchange_14 : jd cX0_exchange 14 (.return_) 1 15 := ⟨by decide +kernel, rfl⟩
theorem m_X0_exchange : jmS yX0_exchange cX0_exchange 4 none 3 := ⟨(jj_m (w := Cond.code yX0_exchange cX0_exchange 4 none) (List.mem_of_getElem? (i := 723) (by decide +kernel)) rfl), (jj_m (w := Cond.initialized yX0_exchange.cls) (List.mem_of_getElem? (i := 68) (by decide +kernel)) rfl), ⟨by decide, by decide⟩, by decide +kernel⟩
theorem s_X0_exchange : (Cond.static yX0_exchange : Cond) ∈ jj_tb := (jj_m (w := Cond.static yX0_exchange) (List.mem_of_getElem? (i := 722) (by decide +kernel)) rfl)
def fX0_exchange (i1 : Int32) (i2 : Int32) (S : M2) : Option (M2) :=
  bnd i1 15 <|
  lt ((S 5 i1.toNatClampNeg)) fun x1 =>
  bnd i2 15 <|
  bnd i1 15 <|
  lt (va_up S 5 (upd (S 5) i1.toNatClampNeg (S 5 i2.toNatClampNeg))) fun S2 =>
  bnd i2 15 <|
  lt (va_up S2 5 (upd (S2 5) i2.toNatClampNeg x1)) fun S3 =>
  some S3

set_option maxHeartbeats 4000000 in
set_option maxRecDepth 100000 in
theorem tX0_exchange (l : Launch) {V : JV M2} {b : Nat} {a : Nat → Nat} (hv : vX1 V b a) (S : M2) (i1 : Int32) (i2 : Int32) : JC l V yX0_exchange cX0_exchange 4 none jj_v 0 [.ref (a 5), .int i1, .int i2] S ((fX0_exchange i1 i2 S).map (fun q => ((), q))) := by
  refine jj_of (by decide) (Nat.le_of_ble_eq_true rfl) (fun E hlE hE => ?_)
  unfold fX0_exchange
  refine J_sub (L' := [(0, .ref (a 5)), (1, .int i1), (2, .int i2)]) [0, 1, 2] rfl ?_
  refine J_aload_n hE dd_X0_exchange_0 0 rfl rfl ?_
  refine J_iload_n hE dd_X0_exchange_1 1 rfl rfl ?_
  refine J_ald hE (hv.arr 5 (n := 15) (ty := .int) (by decide) _) dd_X0_exchange_2 ?_
  refine J_leti (fun x1 => ?_)
  refine J_istore_n hE (L' := [(3, .int x1), (0, .ref (a 5)), (1, .int i1), (2, .int i2)]) dd_X0_exchange_3 (Nat.le_of_ble_eq_true rfl) rfl rfl ?_
  refine J_aload_n hE dd_X0_exchange_4 1 rfl rfl ?_
  refine J_iload_n hE dd_X0_exchange_5 2 rfl rfl ?_
  refine J_aload_n hE dd_X0_exchange_6 1 rfl rfl ?_
  refine J_iload_n hE dd_X0_exchange_7 3 rfl rfl ?_
  refine J_ald hE (hv.arr 5 (n := 15) (ty := .int) (by decide) _) dd_X0_exchange_8 ?_
  refine J_ast hE hv 5 (N := 15) (by decide) dd_X0_exchange_9 ?_
  refine J_letS (fun S2 => ?_)
  refine J_aload_n hE dd_X0_exchange_10 1 rfl rfl ?_
  refine J_iload_n hE dd_X0_exchange_11 3 rfl rfl ?_
  refine J_iload_n hE dd_X0_exchange_12 0 rfl rfl ?_
  refine J_ast hE hv 5 (N := 15) (by decide) dd_X0_exchange_13 ?_
  refine J_letS (fun S3 => ?_)
  exact J_vret hE dd_X0_exchange_14 rfl rfl
theorem dd_X0_orderFrom_0 : jd cX0_orderFrom 0 (.iload_n 2) 1 1 := ⟨by decide +kernel, rfl⟩
theorem dd_X0_orderFrom_1 : jd cX0_orderFrom 1 (.iload_n 3) 1 2 := ⟨by decide +kernel, rfl⟩
theorem dd_X0_orderFrom_70 : jd cX0_orderFrom 70 (.iload_n 2) 1 71 := ⟨by decide +kernel, rfl⟩
theorem dd_X0_orderFrom_71 : jd cX0_orderFrom 71 (.istore 4) 2 73 := ⟨by decide +kernel, rfl⟩
theorem dd_X0_orderFrom_73 : jd cX0_orderFrom 73 (.iload 4) 2 75 := ⟨by decide +kernel, rfl⟩
theorem dd_X0_orderFrom_75 : jd cX0_orderFrom 75 (.iload_n 3) 1 76 := ⟨by decide +kernel, rfl⟩
theorem dd_X0_orderFrom_79 : jd cX0_orderFrom 79 (.aload_n 0) 1 80 := ⟨by decide +kernel, rfl⟩
theorem dd_X0_orderFrom_80 : jd cX0_orderFrom 80 (.getfield 12) 3 83 := ⟨by decide +kernel, rfl⟩
theorem dd_X0_orderFrom_83 : jd cX0_orderFrom 83 (.getfield 56) 3 86 := ⟨by decide +kernel, rfl⟩
theorem dd_X0_orderFrom_86 : jd cX0_orderFrom 86 (.iload_n 2) 1 87 := ⟨by decide +kernel, rfl⟩
theorem dd_X0_orderFrom_87 : jd cX0_orderFrom 87 (.iload 4) 2 89 := ⟨by decide +kernel, rfl⟩
theorem ml_RX0_86 : (Cond.methodLink "MothCustoms$Search" 86 yX0_exchange : Cond) ∈ jj_tb := jj_m (List.mem_of_getElem? (i := 721) (by decide +kernel)) rfl
theorem dd_X0_orderFrom_89 : jd cX0_orderFrom 89 (.invokestatic 86) 3 92 := ⟨by decide +kernel, rfl⟩
theorem dd_X0_orderFrom_92 : jd cX0_orderFrom 92 (.aload_n 0) 1 93 := ⟨by decide +kernel, rfl⟩
theorem dd_X0_orderFrom_93 : jd cX0_orderFrom 93 (.aload_n 1) 1 94 := ⟨by decide +kernel, rfl⟩
theorem dd_X0_orderFrom_94 : jd cX0_orderFrom 94 (.iload_n 2) 1 95 := ⟨by decide +kernel, rfl⟩
theorem dd_X0_orderFrom_95 : jd cX0_orderFrom 95 (.iconst 1) 1 96 := ⟨by decide +kernel, rfl⟩
theorem dd_X0_orderFrom_96 : jd cX0_orderFrom 96 (.iadd) 1 97 := ⟨by decide +kernel, rfl⟩
theorem dd_X0_orderFrom_97 : jd cX0_orderFrom 97 (.iload_n 3) 1 98 := ⟨by decide +kernel, rfl⟩
theorem ml_RX0_79 : (Cond.methodLink "MothCustoms$Search" 79 yX0_orderFrom : Cond) ∈ jj_tb := jj_m (List.mem_of_getElem? (i := 717) (by decide +kernel)) rfl
theorem m_X0_orderFrom : jmS yX0_orderFrom cX0_orderFrom 5 none 4 := ⟨(jj_m (w := Cond.code yX0_orderFrom cX0_orderFrom 5 none) (List.mem_of_getElem? (i := 719) (by decide +kernel)) rfl), (jj_m (w := Cond.initialized yX0_orderFrom.cls) (List.mem_of_getElem? (i := 68) (by decide +kernel)) rfl), ⟨by decide, by decide⟩, by decide +kernel⟩
theorem s_X0_orderFrom : (Cond.static yX0_orderFrom : Cond) ∈ jj_tb := (jj_m (w := Cond.static yX0_orderFrom) (List.mem_of_getElem? (i := 718) (by decide +kernel)) rfl)
theorem dd_X0_orderFrom_98 : jd cX0_orderFrom 98 (.invokestatic 79) 3 101 := ⟨by decide +kernel, rfl⟩
theorem dd_X0_orderFrom_101 : jd cX0_orderFrom 101 (.aload_n 0) 1 102 := ⟨by decide +kernel, rfl⟩
theorem dd_X0_orderFrom_102 : jd cX0_orderFrom 102 (.getfield 12) 3 105 := ⟨by decide +kernel, rfl⟩
theorem dd_X0_orderFrom_105 : jd cX0_orderFrom 105 (.getfield 56) 3 108 := ⟨by decide +kernel, rfl⟩
theorem dd_X0_orderFrom_108 : jd cX0_orderFrom 108 (.iload_n 2) 1 109 := ⟨by decide +kernel, rfl⟩
theorem dd_X0_orderFrom_109 : jd cX0_orderFrom 109 (.iload 4) 2 111 := ⟨by decide +kernel, rfl⟩
theorem dd_X0_orderFrom_111 : jd cX0_orderFrom 111 (.invokestatic 86) 3 114 := ⟨by decide +kernel, rfl⟩
theorem dd_X0_orderFrom_114 : jd cX0_orderFrom 114 (.iinc 4 1) 3 117 := ⟨by decide +kernel, rfl⟩
theorem dd_X0_orderFrom_117 : jd cX0_orderFrom 117 (.goto (-44)) 3 120 := ⟨by decide +kernel, rfl⟩
theorem dd_X0_orderFrom_76 : jd cX0_orderFrom 76 (.if_icmp .ge 44) 3 79 := ⟨by decide +kernel, rfl⟩
theorem dd_X0_orderFrom_120 : jd cX0_orderFrom 120 (.return_) 1 121 := ⟨by decide +kernel, rfl⟩
theorem dd_X0_orderFrom_5 : jd cX0_orderFrom 5 (.aload_n 0) 1 6 := ⟨by decide +kernel, rfl⟩
theorem dd_X0_orderFrom_6 : jd cX0_orderFrom 6 (.getfield 12) 3 9 := ⟨by decide +kernel, rfl⟩
theorem dd_X0_orderFrom_9 : jd cX0_orderFrom 9 (.aload_n 1) 1 10 := ⟨by decide +kernel, rfl⟩
theorem dd_X0_orderFrom_10 : jd cX0_orderFrom 10 (.invokevirtual 59) 3 13 := ⟨by decide +kernel, rfl⟩
theorem dd_X0_orderFrom_13 : jd cX0_orderFrom 13 (.aload_n 0) 1 14 := ⟨by decide +kernel, rfl⟩
theorem dd_X0_orderFrom_14 : jd cX0_orderFrom 14 (.getfield 12) 3 17 := ⟨by decide +kernel, rfl⟩
theorem dd_X0_orderFrom_17 : jd cX0_orderFrom 17 (.bipush 15) 2 19 := ⟨by decide +kernel, rfl⟩
theorem dd_X0_orderFrom_19 : jd cX0_orderFrom 19 (.invokevirtual 62) 3 22 := ⟨by decide +kernel, rfl⟩
theorem dd_X0_orderFrom_22 : jd cX0_orderFrom 22 (.aload_n 0) 1 23 := ⟨by decide +kernel, rfl⟩
theorem dd_X0_orderFrom_23 : jd cX0_orderFrom 23 (.getfield 12) 3 26 := ⟨by decide +kernel, rfl⟩
theorem dd_X0_orderFrom_26 : jd cX0_orderFrom 26 (.getfield 56) 3 29 := ⟨by decide +kernel, rfl⟩
theorem dd_X0_orderFrom_29 : jd cX0_orderFrom 29 (.iload_n 3) 1 30 := ⟨by decide +kernel, rfl⟩
theorem dd_X0_orderFrom_30 : jd cX0_orderFrom 30 (.iconst 1) 1 31 := ⟨by decide +kernel, rfl⟩
theorem dd_X0_orderFrom_31 : jd cX0_orderFrom 31 (.isub) 1 32 := ⟨by decide +kernel, rfl⟩
theorem dd_X0_orderFrom_32 : jd cX0_orderFrom 32 (.iload_n 3) 1 33 := ⟨by decide +kernel, rfl⟩
theorem dd_X0_orderFrom_33 : jd cX0_orderFrom 33 (.iconst 1) 1 34 := ⟨by decide +kernel, rfl⟩
theorem dd_X0_orderFrom_34 : jd cX0_orderFrom 34 (.isub) 1 35 := ⟨by decide +kernel, rfl⟩
theorem dd_X0_orderFrom_35 : jd cX0_orderFrom 35 (.iconst 5) 1 36 := ⟨by decide +kernel, rfl⟩
theorem dd_X0_orderFrom_36 : jd cX0_orderFrom 36 (.irem) 1 37 := ⟨by decide +kernel, rfl⟩
theorem dd_X0_orderFrom_37 : jd cX0_orderFrom 37 (.isub) 1 38 := ⟨by decide +kernel, rfl⟩
theorem dd_X0_orderFrom_38 : jd cX0_orderFrom 38 (.iaload) 1 39 := ⟨by decide +kernel, rfl⟩
theorem dd_X0_orderFrom_39 : jd cX0_orderFrom 39 (.istore 4) 2 41 := ⟨by decide +kernel, rfl⟩
theorem dd_X0_orderFrom_41 : jd cX0_orderFrom 41 (.aload_n 0) 1 42 := ⟨by decide +kernel, rfl⟩
theorem dd_X0_orderFrom_42 : jd cX0_orderFrom 42 (.dup) 1 43 := ⟨by decide +kernel, rfl⟩
theorem fl_RX0_76 : (Cond.fieldLink "MothCustoms$Search" 76 "MothCustoms$Search" "tops" "I" : Cond) ∈ jj_tb := jj_m (List.mem_of_getElem? (i := 254) (by decide +kernel)) rfl
theorem dd_X0_orderFrom_43 : jd cX0_orderFrom 43 (.getfield 76) 3 46 := ⟨by decide +kernel, rfl⟩
theorem dd_X0_orderFrom_46 : jd cX0_orderFrom 46 (.aload_n 0) 1 47 := ⟨by decide +kernel, rfl⟩
theorem dd_X0_orderFrom_47 : jd cX0_orderFrom 47 (.getfield 12) 3 50 := ⟨by decide +kernel, rfl⟩
theorem dd_X0_orderFrom_50 : jd cX0_orderFrom 50 (.iconst 0) 1 51 := ⟨by decide +kernel, rfl⟩
theorem ml_RX0_82 : (Cond.methodLink "MothCustoms$Search" 82 yX1_isAsSeen : Cond) ∈ jj_tb := jj_m (List.mem_of_getElem? (i := 720) (by decide +kernel)) rfl
theorem dd_X0_orderFrom_51 : jd cX0_orderFrom 51 (.invokevirtual 82) 3 54 := ⟨by decide +kernel, rfl⟩
theorem dd_X0_orderFrom_64 : jd cX0_orderFrom 64 (.iconst 0) 1 65 := ⟨by decide +kernel, rfl⟩
theorem dd_X0_orderFrom_65 : jd cX0_orderFrom 65 (.ior) 1 66 := ⟨by decide +kernel, rfl⟩
theorem dd_X0_orderFrom_66 : jd cX0_orderFrom 66 (.putfield 76) 3 69 := ⟨by decide +kernel, rfl⟩
theorem dd_X0_orderFrom_69 : jd cX0_orderFrom 69 (.return_) 1 70 := ⟨by decide +kernel, rfl⟩
theorem dd_X0_orderFrom_57 : jd cX0_orderFrom 57 (.iconst 1) 1 58 := ⟨by decide +kernel, rfl⟩
theorem dd_X0_orderFrom_58 : jd cX0_orderFrom 58 (.iload 4) 2 60 := ⟨by decide +kernel, rfl⟩
theorem dd_X0_orderFrom_60 : jd cX0_orderFrom 60 (.ishl) 1 61 := ⟨by decide +kernel, rfl⟩
theorem dd_X0_orderFrom_61 : jd cX0_orderFrom 61 (.goto 4) 3 64 := ⟨by decide +kernel, rfl⟩
theorem dd_X0_orderFrom_54 : jd cX0_orderFrom 54 (.ifCond .eq 10) 3 57 := ⟨by decide +kernel, rfl⟩
theorem dd_X0_orderFrom_2 : jd cX0_orderFrom 2 (.if_icmp .lt 68) 3 5 := ⟨by decide +kernel, rfl⟩
def fX0_orderFrom_L73 (T : M2) (S : M2) (i2 : Int32) (i3 : Int32) (self : Int32 → Int32 → M2 → M2 → Option (M2 × M2)) (k120 : (M2 × M2) → Option (M2 × M2)) : Nat → Int32 → M2 → M2 → Option (M2 × M2)
  | 0, _, _, _ => none
  | n_ + 1, v1, T2, S3 =>
    if i3 ≤ v1 then
      k120 (T2, S3)
    else
      (fX0_exchange i2 v1 S3).bind fun q4 =>
      lt (q4) fun S5 =>
      (self (i2 + (1 : Int32)) i3 T2 S5).bind fun q6 =>
      lt q6.1 fun T7 => lt q6.2 fun S8 =>
      (fX0_exchange i2 v1 S8).bind fun q9 =>
      lt (q9) fun S10 =>
      lt (v1 + (1 : Int32)) fun x11 =>
      fX0_orderFrom_L73 T S i2 i3 self k120 n_ x11 T7 S10

def fX0_orderFrom : Nat → Int32 → Int32 → M2 → M2 → M2 → Option (M2 × M2)
  | 0, _, _, _, _, _ => none
  | n_ + 1, i2, i3, T, S, N =>
    if i2 < i3 then
      fX0_orderFrom_L73 T S i2 i3 (fun i2 i3 T S => fX0_orderFrom n_ i2 i3 T S N)
        (fun p13 =>
          some (p13.1, p13.2))
        400 i2 T S
    else
      (fX1_copyHolesFrom  S N).bind fun q14 =>
      lt (q14) fun S15 =>
      (fX1_letLoose (15 : Int32) S15).bind fun q16 =>
      lt (q16) fun S17 =>
      if (5 : Int32) = 0 then none else
      bnd ((i3 - (1 : Int32)) - ((i3 - (1 : Int32)) - (i3 - (1 : Int32)) / (5 : Int32) * (5 : Int32))) 15 <|
      lt ((S17 5 ((i3 - (1 : Int32)) - ((i3 - (1 : Int32)) - (i3 - (1 : Int32)) / (5 : Int32) * (5 : Int32))).toNatClampNeg)) fun x18 =>
      (fX1_isAsSeen (0 : Int32) S17).bind fun r19 =>
      if r19 = 0 then
        lt (va_up T 5 (fun _ => ((T 5 0) ||| (0 : Int32)))) fun T20 =>
        some (T20, S17)
      else
        lt (va_up T 5 (fun _ => ((T 5 0) ||| ((1 : Int32) <<< (x18 &&& 31))))) fun T21 =>
        some (T21, S17)

set_option maxHeartbeats 4000000 in
set_option maxRecDepth 100000 in
theorem tX0_orderFrom_L73 {V : JV (M2 × M2)} {b : Nat} {a : Nat → Nat} {b2 : Nat} {a2 : Nat → Nat} {b3 : Nat} {a3 : Nat → Nat} {N : M2} (hv1 : v1X0 V b a b2) (hv2 : v2X1 V b2 a2) (hr : rX1 V b3 a3 N) (T : M2) (S : M2) (i2 : Int32) (i3 : Int32) (self : Int32 → Int32 → M2 → M2 → Option (M2 × M2)) {E : JE (M2 × M2) Unit} {d dS : Nat} (hE : JOk V E cX0_orderFrom yX0_orderFrom.cls 5 d none jj_v) (hd0 : 4 ≤ d) (hdS : dS + 1 ≤ d) (hself : ∀ (T S : M2) (i2 i3 : Int32), JC E.2.1 V yX0_orderFrom cX0_orderFrom 5 none jj_v dS [.ref b, .ref b3, .int i2, .int i3] (T, S) ((self i2 i3 T S).map (fun q => ((), q)))) {k120 : (M2 × M2) → Option (M2 × M2)} (hk120 : ∀ p, J V E (fun q => ((), q)) (k120 p) 120 [] [] (p.1, p.2)) : ∀ (n_ : Nat) (v1 : Int32) (T2 : M2) (S3 : M2), J V E (fun q => ((), q)) (fX0_orderFrom_L73 T S i2 i3 self k120 n_ v1 T2 S3) 73 [(0, .ref b), (1, .ref b3), (2, .int i2), (3, .int i3), (4, .int v1)] [] (T2, S3) := by
  intro n_
  induction n_ with
  | zero =>
    intros
    exact J_none
  | succ n_ ih =>
    intros v1 T2 S3
    rw [fX0_orderFrom_L73]
    refine J_iload hE dd_X0_orderFrom_73 4 rfl ?_
    refine J_iload_n hE dd_X0_orderFrom_75 3 rfl rfl ?_
    refine J_icmp_ge hE (tgt := 120) dd_X0_orderFrom_76 (by decide) (fun c12 => ?_) (fun c12 => ?_)
    · refine J_sub [] rfl ?_
      exact hk120 (T2, S3)
    · refine J_aload_n hE dd_X0_orderFrom_79 0 rfl rfl ?_
      refine J_get hE (hv1.ob _) jc_X0 0 (by decide) fl_RX0_12 (v := .ref b2) rfl dd_X0_orderFrom_80 ?_
      refine J_get hE (hv2.ob _) jc_X1 5 (by decide) fl_RX0_56 (v := .ref (a2 5)) rfl dd_X0_orderFrom_83 ?_
      refine J_iload_n hE dd_X0_orderFrom_86 2 rfl rfl ?_
      refine J_iload hE dd_X0_orderFrom_87 4 rfl ?_
      refine J_invSwv hE (As := [.ref (a2 5), .int i2, .int v1]) (st := []) (JC.lift_v (e := fun S => (T2, S)) (tX0_exchange E.2.1 (v2X1s hv2 T2) S3 i2 v1) rfl) m_X0_exchange s_X0_exchange rfl ml_RX0_86 (Nat.le_trans (Nat.le_of_ble_eq_true rfl) hd0) (Nat.le_of_ble_eq_true rfl) rfl (Nat.le_of_ble_eq_true rfl) dd_X0_orderFrom_89 (fun q4 => ?_)
      refine J_let2 (T := T2) (fun S5 => ?_)
      refine J_aload_n hE dd_X0_orderFrom_92 0 rfl rfl ?_
      refine J_aload_n hE dd_X0_orderFrom_93 1 rfl rfl ?_
      refine J_iload_n hE dd_X0_orderFrom_94 2 rfl rfl ?_
      refine J_iconst hE (v := (1 : Int32)) dd_X0_orderFrom_95 (by decide) ?_
      refine J_iadd hE dd_X0_orderFrom_96 ?_
      refine J_iload_n hE dd_X0_orderFrom_97 3 rfl rfl ?_
      refine J_invSwv hE (e := fun x => x) (As := [.ref b, .ref b3, .int (i2 + (1 : Int32)), .int i3]) (st := []) (hself T2 S5 (i2 + (1 : Int32)) i3) m_X0_orderFrom s_X0_orderFrom rfl ml_RX0_79 hdS (Nat.le_of_ble_eq_true rfl) rfl (Nat.le_of_ble_eq_true rfl) dd_X0_orderFrom_98 (fun q6 => ?_)
      refine J_letP (fun T7 S8 => ?_)
      refine J_aload_n hE dd_X0_orderFrom_101 0 rfl rfl ?_
      refine J_get hE (hv1.ob _) jc_X0 0 (by decide) fl_RX0_12 (v := .ref b2) rfl dd_X0_orderFrom_102 ?_
      refine J_get hE (hv2.ob _) jc_X1 5 (by decide) fl_RX0_56 (v := .ref (a2 5)) rfl dd_X0_orderFrom_105 ?_
      refine J_iload_n hE dd_X0_orderFrom_108 2 rfl rfl ?_
      refine J_iload hE dd_X0_orderFrom_109 4 rfl ?_
      refine J_invSwv hE (As := [.ref (a2 5), .int i2, .int v1]) (st := []) (JC.lift_v (e := fun S => (T7, S)) (tX0_exchange E.2.1 (v2X1s hv2 T7) S8 i2 v1) rfl) m_X0_exchange s_X0_exchange rfl ml_RX0_86 (Nat.le_trans (Nat.le_of_ble_eq_true rfl) hd0) (Nat.le_of_ble_eq_true rfl) rfl (Nat.le_of_ble_eq_true rfl) dd_X0_orderFrom_111 (fun q9 => ?_)
      refine J_let2 (T := T7) (fun S10 => ?_)
      refine J_iincL hE (v := (v1 + (1 : Int32))) (Lf := fun x11 => [(4, .int x11), (0, .ref b), (1, .ref b3), (2, .int i2), (3, .int i3)]) dd_X0_orderFrom_114 (j := 4) rfl (congrArg (v1 + ·) (by decide)) (Nat.le_of_ble_eq_true rfl) (fun _ => rfl) (fun x11 => ?_)
      refine J_goto hE (tgt := 73) dd_X0_orderFrom_117 (by decide) ?_
      refine J_sub [1, 2, 3, 4, 0] rfl ?_
      exact ih x11 T7 S10
set_option maxHeartbeats 4000000 in
set_option maxRecDepth 100000 in
theorem tX0_orderFrom (l : Launch) : ∀ (n_ : Nat) {V : JV (M2 × M2)} {b : Nat} {a : Nat → Nat} {b2 : Nat} {a2 : Nat → Nat} {b3 : Nat} {a3 : Nat → Nat} {N : M2} (hv1 : v1X0 V b a b2) (hv2 : v2X1 V b2 a2) (hr : rX1 V b3 a3 N) (T S : M2) (i2 : Int32) (i3 : Int32), JC l V yX0_orderFrom cX0_orderFrom 5 none jj_v (4 + n_) [.ref b, .ref b3, .int i2, .int i3] (T, S) ((fX0_orderFrom n_ i2 i3 T S N).map (fun q => ((), q))) := by
  intro n_
  induction n_ with
  | zero =>
    intros
    rw [fX0_orderFrom]
    exact JC_none
  | succ n_ ih =>
    intro V b a b2 a2 b3 a3 N hv1 hv2 hr T S i2 i3
    refine jj_of (by decide) (Nat.le_of_ble_eq_true rfl) (fun E hlE hE => ?_)
    have hself := fun (T S : M2) (i2 i3 : Int32) => ih (V := V) hv1 hv2 hr T S i2 i3
    rw [← hlE] at hself
    have hd0 : 4 ≤ 4 + (n_ + 1) := by omega
    have hdS : 4 + n_ + 1 ≤ 4 + (n_ + 1) := by omega
    rw [fX0_orderFrom]
    refine J_sub (L' := [(0, .ref b), (1, .ref b3), (2, .int i2), (3, .int i3)]) [0, 1, 2, 3] rfl ?_
    refine J_iload_n hE dd_X0_orderFrom_0 2 rfl rfl ?_
    refine J_iload_n hE dd_X0_orderFrom_1 3 rfl rfl ?_
    refine J_icmp_lt hE (tgt := 70) dd_X0_orderFrom_2 (by decide) (fun c23 => ?_) (fun c23 => ?_)
    · refine J_iload_n hE dd_X0_orderFrom_70 2 rfl rfl ?_
      refine J_istore hE (L' := [(4, .int i2), (0, .ref b), (1, .ref b3), (2, .int i2), (3, .int i3)]) dd_X0_orderFrom_71 (Nat.le_of_ble_eq_true rfl) rfl ?_
      refine J_sub [1, 2, 3, 4, 0] rfl ?_
      refine tX0_orderFrom_L73 hv1 hv2 hr T S i2 i3 (fun i2 i3 T S => fX0_orderFrom n_ i2 i3 T S N) hE hd0 hdS hself (fun p13 => ?_) 400 i2 T S
      show J V E _ _ 120 [] [] (p13.1, p13.2)
      exact J_vret hE dd_X0_orderFrom_120 rfl rfl
    · refine J_aload_n hE dd_X0_orderFrom_5 0 rfl rfl ?_
      refine J_get hE (hv1.ob _) jc_X0 0 (by decide) fl_RX0_12 (v := .ref b2) rfl dd_X0_orderFrom_6 ?_
      refine J_aload_n hE dd_X0_orderFrom_9 1 rfl rfl ?_
      refine J_invVwv hE (As := [.ref b3]) (st := []) (JC.lift_v (e := fun S => (T, S)) (tX1_copyHolesFrom E.2.1 (v2X1s hv2 T) (rX1s hr T) S ) rfl) (hv2.ob _) m_X1_copyHolesFrom rfl ml_RX0_59 (Nat.le_trans (Nat.le_of_ble_eq_true rfl) hd0) (Nat.le_of_ble_eq_true rfl) rfl (Nat.le_of_ble_eq_true rfl) dd_X0_orderFrom_10 (fun q14 => ?_)
      refine J_let2 (T := T) (fun S15 => ?_)
      refine J_aload_n hE dd_X0_orderFrom_13 0 rfl rfl ?_
      refine J_get hE (hv1.ob _) jc_X0 0 (by decide) fl_RX0_12 (v := .ref b2) rfl dd_X0_orderFrom_14 ?_
      refine J_bipush hE (v := (15 : Int32)) dd_X0_orderFrom_17 (by decide) ?_
      refine J_invVwv hE (As := [.int (15 : Int32)]) (st := []) (JC.lift_v (e := fun S => (T, S)) (tX1_letLoose E.2.1 (v2X1s hv2 T) S15 (15 : Int32)) rfl) (hv2.ob _) m_X1_letLoose rfl ml_RX0_62 (Nat.le_trans (Nat.le_of_ble_eq_true rfl) hd0) (Nat.le_of_ble_eq_true rfl) rfl (Nat.le_of_ble_eq_true rfl) dd_X0_orderFrom_19 (fun q16 => ?_)
      refine J_let2 (T := T) (fun S17 => ?_)
      refine J_aload_n hE dd_X0_orderFrom_22 0 rfl rfl ?_
      refine J_get hE (hv1.ob _) jc_X0 0 (by decide) fl_RX0_12 (v := .ref b2) rfl dd_X0_orderFrom_23 ?_
      refine J_get hE (hv2.ob _) jc_X1 5 (by decide) fl_RX0_56 (v := .ref (a2 5)) rfl dd_X0_orderFrom_26 ?_
      refine J_iload_n hE dd_X0_orderFrom_29 3 rfl rfl ?_
      refine J_iconst hE (v := (1 : Int32)) dd_X0_orderFrom_30 (by decide) ?_
      refine J_isub hE dd_X0_orderFrom_31 ?_
      refine J_iload_n hE dd_X0_orderFrom_32 3 rfl rfl ?_
      refine J_iconst hE (v := (1 : Int32)) dd_X0_orderFrom_33 (by decide) ?_
      refine J_isub hE dd_X0_orderFrom_34 ?_
      refine J_iconst hE (v := (5 : Int32)) dd_X0_orderFrom_35 (by decide) ?_
      refine J_irem hE dd_X0_orderFrom_36 (fun _ => ?_)
      refine J_isub hE dd_X0_orderFrom_37 ?_
      refine J_ald hE (hv2.arr 5 (n := 15) (ty := .int) (by decide) _) dd_X0_orderFrom_38 ?_
      refine J_leti (fun x18 => ?_)
      refine J_istore hE (L' := [(4, .int x18), (0, .ref b), (1, .ref b3), (2, .int i2), (3, .int i3)]) dd_X0_orderFrom_39 (Nat.le_of_ble_eq_true rfl) rfl ?_
      refine J_aload_n hE dd_X0_orderFrom_41 1 rfl rfl ?_
      refine J_dup hE dd_X0_orderFrom_42 rfl ?_
      refine J_get hE (hv1.ob _) jc_X0 5 (by decide) fl_RX0_76 (v := .int (T 5 0)) rfl dd_X0_orderFrom_43 ?_
      refine J_aload_n hE dd_X0_orderFrom_46 1 rfl rfl ?_
      refine J_get hE (hv1.ob _) jc_X0 0 (by decide) fl_RX0_12 (v := .ref b2) rfl dd_X0_orderFrom_47 ?_
      refine J_iconst hE (v := (0 : Int32)) dd_X0_orderFrom_50 (by decide) ?_
      refine J_invVri hE (As := [.int (0 : Int32)]) (st := [.int (T 5 0), .ref b]) (JC.lift_r (e := fun S => (T, S)) (tX1_isAsSeen E.2.1 (v2X1s hv2 T) S17 (0 : Int32)) rfl) (hv2.ob _) m_X1_isAsSeen rfl ml_RX0_82 (Nat.le_trans (Nat.le_of_ble_eq_true rfl) hd0) (Nat.le_of_ble_eq_true rfl) rfl (Nat.le_of_ble_eq_true rfl) dd_X0_orderFrom_51 (fun r19 => ?_)
      refine J_if_eq hE (tgt := 64) dd_X0_orderFrom_54 (by decide) (fun c22 => ?_) (fun c22 => ?_)
      · refine J_iconst hE (v := (0 : Int32)) dd_X0_orderFrom_64 (by decide) ?_
        refine J_ior hE dd_X0_orderFrom_65 ?_
        refine J_put hE hv1 jc_X0 5 (by decide) (by decide) fl_RX0_76 rfl rfl rfl (Nat.le_of_ble_eq_true rfl) dd_X0_orderFrom_66 ?_
        refine J_let1 (S := S17) (fun T20 => ?_)
        exact J_vret hE dd_X0_orderFrom_69 rfl rfl
      · refine J_iconst hE (v := (1 : Int32)) dd_X0_orderFrom_57 (by decide) ?_
        refine J_iload hE dd_X0_orderFrom_58 0 rfl ?_
        refine J_ishl hE dd_X0_orderFrom_60 ?_
        refine J_goto hE (tgt := 65) dd_X0_orderFrom_61 (by decide) ?_
        refine J_ior hE dd_X0_orderFrom_65 ?_
        refine J_put hE hv1 jc_X0 5 (by decide) (by decide) fl_RX0_76 rfl rfl rfl (Nat.le_of_ble_eq_true rfl) dd_X0_orderFrom_66 ?_
        refine J_let1 (S := S17) (fun T21 => ?_)
        exact J_vret hE dd_X0_orderFrom_69 rfl rfl
theorem dd_X0_findTops_0 : jd cX0_findTops 0 (.aload_n 0) 1 1 := ⟨by decide +kernel, rfl⟩
theorem dd_X0_findTops_1 : jd cX0_findTops 1 (.getfield 12) 3 4 := ⟨by decide +kernel, rfl⟩
theorem dd_X0_findTops_4 : jd cX0_findTops 4 (.aload_n 1) 1 5 := ⟨by decide +kernel, rfl⟩
theorem dd_X0_findTops_5 : jd cX0_findTops 5 (.invokevirtual 25) 3 8 := ⟨by decide +kernel, rfl⟩
theorem dd_X0_findTops_8 : jd cX0_findTops 8 (.aload_n 0) 1 9 := ⟨by decide +kernel, rfl⟩
theorem dd_X0_findTops_9 : jd cX0_findTops 9 (.iconst 0) 1 10 := ⟨by decide +kernel, rfl⟩
theorem dd_X0_findTops_10 : jd cX0_findTops 10 (.putfield 76) 3 13 := ⟨by decide +kernel, rfl⟩
theorem dd_X0_findTops_13 : jd cX0_findTops 13 (.aload_n 1) 1 14 := ⟨by decide +kernel, rfl⟩
theorem dd_X0_findTops_14 : jd cX0_findTops 14 (.getfield 29) 3 17 := ⟨by decide +kernel, rfl⟩
theorem dd_X0_findTops_17 : jd cX0_findTops 17 (.iload_n 2) 1 18 := ⟨by decide +kernel, rfl⟩
theorem dd_X0_findTops_18 : jd cX0_findTops 18 (.iaload) 1 19 := ⟨by decide +kernel, rfl⟩
theorem dd_X0_findTops_40 : jd cX0_findTops 40 (.aload_n 0) 1 41 := ⟨by decide +kernel, rfl⟩
theorem dd_X0_findTops_41 : jd cX0_findTops 41 (.getfield 76) 3 44 := ⟨by decide +kernel, rfl⟩
theorem dd_X0_findTops_44 : jd cX0_findTops 44 (.ireturn) 1 45 := ⟨by decide +kernel, rfl⟩
theorem dd_X0_findTops_22 : jd cX0_findTops 22 (.aload_n 0) 1 23 := ⟨by decide +kernel, rfl⟩
theorem dd_X0_findTops_23 : jd cX0_findTops 23 (.aload_n 1) 1 24 := ⟨by decide +kernel, rfl⟩
theorem dd_X0_findTops_24 : jd cX0_findTops 24 (.iload_n 2) 1 25 := ⟨by decide +kernel, rfl⟩
theorem dd_X0_findTops_25 : jd cX0_findTops 25 (.iconst 5) 1 26 := ⟨by decide +kernel, rfl⟩
theorem dd_X0_findTops_26 : jd cX0_findTops 26 (.imul) 1 27 := ⟨by decide +kernel, rfl⟩
theorem dd_X0_findTops_27 : jd cX0_findTops 27 (.iload_n 2) 1 28 := ⟨by decide +kernel, rfl⟩
theorem dd_X0_findTops_28 : jd cX0_findTops 28 (.iconst 5) 1 29 := ⟨by decide +kernel, rfl⟩
theorem dd_X0_findTops_29 : jd cX0_findTops 29 (.imul) 1 30 := ⟨by decide +kernel, rfl⟩
theorem dd_X0_findTops_30 : jd cX0_findTops 30 (.aload_n 1) 1 31 := ⟨by decide +kernel, rfl⟩
theorem dd_X0_findTops_31 : jd cX0_findTops 31 (.getfield 29) 3 34 := ⟨by decide +kernel, rfl⟩
theorem dd_X0_findTops_34 : jd cX0_findTops 34 (.iload_n 2) 1 35 := ⟨by decide +kernel, rfl⟩
theorem dd_X0_findTops_35 : jd cX0_findTops 35 (.iaload) 1 36 := ⟨by decide +kernel, rfl⟩
theorem dd_X0_findTops_36 : jd cX0_findTops 36 (.iadd) 1 37 := ⟨by decide +kernel, rfl⟩
theorem dd_X0_findTops_37 : jd cX0_findTops 37 (.invokestatic 79) 3 40 := ⟨by decide +kernel, rfl⟩
theorem dd_X0_findTops_19 : jd cX0_findTops 19 (.ifCond .le 21) 3 22 := ⟨by decide +kernel, rfl⟩
theorem m_X0_findTops : jmV yX0_findTops cX0_findTops 3 (some .int) 2 := ⟨⟨(jj_m (w := Cond.code yX0_findTops cX0_findTops 3 (some .int)) (List.mem_of_getElem? (i := 716) (by decide +kernel)) rfl), (jj_m (w := Cond.initialized yX0_findTops.cls) (List.mem_of_getElem? (i := 68) (by decide +kernel)) rfl), ⟨by decide, by decide⟩, by decide +kernel⟩, (jj_m (w := Cond.instanceMethod yX0_findTops) (List.mem_of_getElem? (i := 714) (by decide +kernel)) rfl), (jj_m (w := Cond.selects yX0_findTops.cls yX0_findTops yX0_findTops) (List.mem_of_getElem? (i := 715) (by decide +kernel)) rfl)⟩
def fX0_findTops (i2 : Int32) (T : M2) (S : M2) (N : M2) : Option (Int32 × (M2 × M2)) :=
  (fX1_copyFrom  S N).bind fun q1 =>
  lt (q1) fun S2 =>
  lt (va_up T 5 (fun _ => (0 : Int32))) fun T3 =>
  bnd i2 3 <|
  if (N 6 i2.toNatClampNeg) ≤ 0 then
    some ((T3 5 0), (T3, S2))
  else
    bnd i2 3 <|
    (fX0_orderFrom 7 (i2 * (5 : Int32)) ((i2 * (5 : Int32)) + (N 6 i2.toNatClampNeg)) T3 S2 N).bind fun q4 =>
    lt q4.1 fun T5 => lt q4.2 fun S6 =>
    some ((T5 5 0), (T5, S6))

set_option maxHeartbeats 4000000 in
set_option maxRecDepth 100000 in
theorem tX0_findTops (l : Launch) {V : JV (M2 × M2)} {b : Nat} {a : Nat → Nat} {b2 : Nat} {a2 : Nat → Nat} {b3 : Nat} {a3 : Nat → Nat} {N : M2} (hv1 : v1X0 V b a b2) (hv2 : v2X1 V b2 a2) (hr : rX1 V b3 a3 N) (T : M2) (S : M2) (i2 : Int32) : JC l V yX0_findTops cX0_findTops 3 (some .int) jj_i 12 [.ref b, .ref b3, .int i2] (T, S) ((fX0_findTops i2 T S N).map (fun q => (q.1, q.2))) := by
  refine jj_of (by decide) (Nat.le_of_ble_eq_true rfl) (fun E hlE hE => ?_)
  unfold fX0_findTops
  refine J_sub (L' := [(0, .ref b), (1, .ref b3), (2, .int i2)]) [0, 1, 2] rfl ?_
  refine J_aload_n hE dd_X0_findTops_0 0 rfl rfl ?_
  refine J_get hE (hv1.ob _) jc_X0 0 (by decide) fl_RX0_12 (v := .ref b2) rfl dd_X0_findTops_1 ?_
  refine J_aload_n hE dd_X0_findTops_4 1 rfl rfl ?_
  refine J_invVwv hE (As := [.ref b3]) (st := []) (JC.lift_v (e := fun S => (T, S)) (tX1_copyFrom E.2.1 (v2X1s hv2 T) (rX1s hr T) S ) rfl) (hv2.ob _) m_X1_copyFrom rfl ml_RX0_25 (Nat.le_of_ble_eq_true rfl) (Nat.le_of_ble_eq_true rfl) rfl (Nat.le_of_ble_eq_true rfl) dd_X0_findTops_5 (fun q1 => ?_)
  refine J_let2 (T := T) (fun S2 => ?_)
  refine J_aload_n hE dd_X0_findTops_8 0 rfl rfl ?_
  refine J_iconst hE (v := (0 : Int32)) dd_X0_findTops_9 (by decide) ?_
  refine J_put hE hv1 jc_X0 5 (by decide) (by decide) fl_RX0_76 rfl rfl rfl (Nat.le_of_ble_eq_true rfl) dd_X0_findTops_10 ?_
  refine J_let1 (S := S2) (fun T3 => ?_)
  refine J_aload_n hE dd_X0_findTops_13 1 rfl rfl ?_
  refine J_get hE (hr.ob _) jc_X1 6 (by decide) fl_RX0_29 (v := .ref (a3 6)) rfl dd_X0_findTops_14 ?_
  refine J_iload_n hE dd_X0_findTops_17 2 rfl rfl ?_
  refine J_ald hE (hr.arr 6 (n := 3) (ty := .int) (by decide) _) dd_X0_findTops_18 ?_
  refine J_if_le hE (tgt := 40) dd_X0_findTops_19 (by decide) (fun c7 => ?_) (fun c7 => ?_)
  · refine J_aload_n hE dd_X0_findTops_40 0 rfl rfl ?_
    refine J_get hE (hv1.ob _) jc_X0 5 (by decide) fl_RX0_76 (v := .int (T3 5 0)) rfl dd_X0_findTops_41 ?_
    exact J_iret hE dd_X0_findTops_44 rfl rfl
  · refine J_aload_n hE dd_X0_findTops_22 0 rfl rfl ?_
    refine J_aload_n hE dd_X0_findTops_23 1 rfl rfl ?_
    refine J_iload_n hE dd_X0_findTops_24 2 rfl rfl ?_
    refine J_iconst hE (v := (5 : Int32)) dd_X0_findTops_25 (by decide) ?_
    refine J_imul hE dd_X0_findTops_26 ?_
    refine J_iload_n hE dd_X0_findTops_27 2 rfl rfl ?_
    refine J_iconst hE (v := (5 : Int32)) dd_X0_findTops_28 (by decide) ?_
    refine J_imul hE dd_X0_findTops_29 ?_
    refine J_aload_n hE dd_X0_findTops_30 1 rfl rfl ?_
    refine J_get hE (hr.ob _) jc_X1 6 (by decide) fl_RX0_29 (v := .ref (a3 6)) rfl dd_X0_findTops_31 ?_
    refine J_iload_n hE dd_X0_findTops_34 2 rfl rfl ?_
    refine J_ald hE (hr.arr 6 (n := 3) (ty := .int) (by decide) _) dd_X0_findTops_35 ?_
    refine J_iadd hE dd_X0_findTops_36 ?_
    refine J_invSwv hE (e := fun x => x) (As := [.ref b, .ref b3, .int (i2 * (5 : Int32)), .int ((i2 * (5 : Int32)) + (N 6 i2.toNatClampNeg))]) (st := []) (tX0_orderFrom E.2.1 7 hv1 hv2 hr T3 S2 (i2 * (5 : Int32)) ((i2 * (5 : Int32)) + (N 6 i2.toNatClampNeg))) m_X0_orderFrom s_X0_orderFrom rfl ml_RX0_79 (Nat.le_of_ble_eq_true rfl) (Nat.le_of_ble_eq_true rfl) rfl (Nat.le_of_ble_eq_true rfl) dd_X0_findTops_37 (fun q4 => ?_)
    refine J_letP (fun T5 S6 => ?_)
    refine J_aload_n hE dd_X0_findTops_40 0 rfl rfl ?_
    refine J_get hE (hv1.ob _) jc_X0 5 (by decide) fl_RX0_76 (v := .int (T5 5 0)) rfl dd_X0_findTops_41 ?_
    exact J_iret hE dd_X0_findTops_44 rfl rfl
end
