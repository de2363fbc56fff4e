-- ===== PART A: goes FIRST, ahead of the names: the tables' words, and 'selects' of the private methods out of them =====
/-- a private method of a class that the tables say can be made, by its rows of tables_1 -/
def lw_okq (q : MethodName × Nat) : Prop := (q.1.cls ≠ "java/lang/invoke/MethodHandle" ∧ q.1.cls ≠ "java/lang/invoke/VarHandle") ∧ Cond.instantiable q.1.cls q.2 ∈ tables_1 ∧ Cond.privateMethod q.1 ∈ tables_1 ∧ Cond.instanceMethod q.1 ∈ tables_1
theorem lw_p0 : lw_okq (⟨"PaperRounds$Streets", "putInOrder", "(I)V"⟩, 9) := ⟨⟨by decide +kernel, by decide +kernel⟩, List.mem_of_getElem? (i := 28) (by decide +kernel), List.mem_of_getElem? (i := 446) (by decide +kernel), List.mem_of_getElem? (i := 447) (by decide +kernel)⟩
theorem lw_p1 : lw_okq (⟨"PaperRounds", "settled", "(I)I"⟩, 5) := ⟨⟨by decide +kernel, by decide +kernel⟩, List.mem_of_getElem? (i := 14) (by decide +kernel), List.mem_of_getElem? (i := 450) (by decide +kernel), List.mem_of_getElem? (i := 451) (by decide +kernel)⟩
theorem lw_p2 : lw_okq (⟨"PaperRounds$Houses", "makeOrder", "(LPaperRounds$Streets;)V"⟩, 15) := ⟨⟨by decide +kernel, by decide +kernel⟩, List.mem_of_getElem? (i := 76) (by decide +kernel), List.mem_of_getElem? (i := 470) (by decide +kernel), List.mem_of_getElem? (i := 471) (by decide +kernel)⟩
theorem lw_p3 : lw_okq (⟨"PaperRounds$Walk", "clear", "()V"⟩, 6) := ⟨⟨by decide +kernel, by decide +kernel⟩, List.mem_of_getElem? (i := 288) (by decide +kernel), List.mem_of_getElem? (i := 568) (by decide +kernel), List.mem_of_getElem? (i := 569) (by decide +kernel)⟩
theorem lw_p4 : lw_okq (⟨"PaperRounds$Walk", "endTrip", "(LPaperRounds$Streets;I)V"⟩, 6) := ⟨⟨by decide +kernel, by decide +kernel⟩, List.mem_of_getElem? (i := 288) (by decide +kernel), List.mem_of_getElem? (i := 583) (by decide +kernel), List.mem_of_getElem? (i := 584) (by decide +kernel)⟩
theorem lw_p5 : lw_okq (⟨"PaperRounds$Town", "bringPapers", "()V"⟩, 8) := ⟨⟨by decide +kernel, by decide +kernel⟩, List.mem_of_getElem? (i := 22) (by decide +kernel), List.mem_of_getElem? (i := 595) (by decide +kernel), List.mem_of_getElem? (i := 596) (by decide +kernel)⟩
theorem lw_p6 : lw_okq (⟨"PaperRounds$Town", "fateOfPapers", "(I)I"⟩, 8) := ⟨⟨by decide +kernel, by decide +kernel⟩, List.mem_of_getElem? (i := 22) (by decide +kernel), List.mem_of_getElem? (i := 599) (by decide +kernel), List.mem_of_getElem? (i := 600) (by decide +kernel)⟩
theorem lw_p7 : lw_okq (⟨"PaperRounds$Town", "book", "(III)V"⟩, 8) := ⟨⟨by decide +kernel, by decide +kernel⟩, List.mem_of_getElem? (i := 22) (by decide +kernel), List.mem_of_getElem? (i := 606) (by decide +kernel), List.mem_of_getElem? (i := 607) (by decide +kernel)⟩
theorem lw_p8 : lw_okq (⟨"PaperRounds$Town", "payTips", "()V"⟩, 8) := ⟨⟨by decide +kernel, by decide +kernel⟩, List.mem_of_getElem? (i := 22) (by decide +kernel), List.mem_of_getElem? (i := 614) (by decide +kernel), List.mem_of_getElem? (i := 615) (by decide +kernel)⟩
theorem lw_p9 : lw_okq (⟨"PaperRounds$Text", "readNumber", "()I"⟩, 5) := ⟨⟨by decide +kernel, by decide +kernel⟩, List.mem_of_getElem? (i := 319) (by decide +kernel), List.mem_of_getElem? (i := 759) (by decide +kernel), List.mem_of_getElem? (i := 760) (by decide +kernel)⟩
theorem lw_p10 : lw_okq (⟨"PaperRounds$Text", "readSign", "(C)Z"⟩, 5) := ⟨⟨by decide +kernel, by decide +kernel⟩, List.mem_of_getElem? (i := 319) (by decide +kernel), List.mem_of_getElem? (i := 763) (by decide +kernel), List.mem_of_getElem? (i := 764) (by decide +kernel)⟩
theorem lw_p11 : lw_okq (⟨"PaperRounds$Trial", "answerOf", "(C[ILPaperRounds$Walk;)I"⟩, 5) := ⟨⟨by decide +kernel, by decide +kernel⟩, List.mem_of_getElem? (i := 347) (by decide +kernel), List.mem_of_getElem? (i := 767) (by decide +kernel), List.mem_of_getElem? (i := 768) (by decide +kernel)⟩
theorem lw_p12 : lw_okq (⟨"PaperRoundsModel", "isCorner", "(I)Z"⟩, 20) := ⟨⟨by decide +kernel, by decide +kernel⟩, List.mem_of_getElem? (i := 781) (by decide +kernel), List.mem_of_getElem? (i := 852) (by decide +kernel), List.mem_of_getElem? (i := 853) (by decide +kernel)⟩
theorem lw_p13 : lw_okq (⟨"PaperRoundsModel", "notes", "()V"⟩, 20) := ⟨⟨by decide +kernel, by decide +kernel⟩, List.mem_of_getElem? (i := 781) (by decide +kernel), List.mem_of_getElem? (i := 859) (by decide +kernel), List.mem_of_getElem? (i := 860) (by decide +kernel)⟩
theorem lw_p14 : lw_okq (⟨"PaperRoundsModel", "ends", "(I)I"⟩, 20) := ⟨⟨by decide +kernel, by decide +kernel⟩, List.mem_of_getElem? (i := 781) (by decide +kernel), List.mem_of_getElem? (i := 866) (by decide +kernel), List.mem_of_getElem? (i := 867) (by decide +kernel)⟩
theorem lw_p15 : lw_okq (⟨"PaperRoundsModel", "lays", "(III)V"⟩, 20) := ⟨⟨by decide +kernel, by decide +kernel⟩, List.mem_of_getElem? (i := 781) (by decide +kernel), List.mem_of_getElem? (i := 874) (by decide +kernel), List.mem_of_getElem? (i := 875) (by decide +kernel)⟩
def lw_privs_1 : List (MethodName × Nat) := [(⟨"PaperRounds$Streets", "putInOrder", "(I)V"⟩, 9), (⟨"PaperRounds", "settled", "(I)I"⟩, 5), (⟨"PaperRounds$Houses", "makeOrder", "(LPaperRounds$Streets;)V"⟩, 15), (⟨"PaperRounds$Walk", "clear", "()V"⟩, 6), (⟨"PaperRounds$Walk", "endTrip", "(LPaperRounds$Streets;I)V"⟩, 6), (⟨"PaperRounds$Town", "bringPapers", "()V"⟩, 8), (⟨"PaperRounds$Town", "fateOfPapers", "(I)I"⟩, 8), (⟨"PaperRounds$Town", "book", "(III)V"⟩, 8), (⟨"PaperRounds$Town", "payTips", "()V"⟩, 8), (⟨"PaperRounds$Text", "readNumber", "()I"⟩, 5), (⟨"PaperRounds$Text", "readSign", "(C)Z"⟩, 5), (⟨"PaperRounds$Trial", "answerOf", "(C[ILPaperRounds$Walk;)I"⟩, 5), (⟨"PaperRoundsModel", "isCorner", "(I)Z"⟩, 20), (⟨"PaperRoundsModel", "notes", "()V"⟩, 20), (⟨"PaperRoundsModel", "ends", "(I)I"⟩, 20), (⟨"PaperRoundsModel", "lays", "(III)V"⟩, 20)]
theorem lw_r1 : ∀ q ∈ lw_privs_1, lw_okq q := List.forall_mem_cons.mpr ⟨lw_p0, List.forall_mem_cons.mpr ⟨lw_p1, List.forall_mem_cons.mpr ⟨lw_p2, List.forall_mem_cons.mpr ⟨lw_p3, List.forall_mem_cons.mpr ⟨lw_p4, List.forall_mem_cons.mpr ⟨lw_p5, List.forall_mem_cons.mpr ⟨lw_p6, List.forall_mem_cons.mpr ⟨lw_p7, List.forall_mem_cons.mpr ⟨lw_p8, List.forall_mem_cons.mpr ⟨lw_p9, List.forall_mem_cons.mpr ⟨lw_p10, List.forall_mem_cons.mpr ⟨lw_p11, List.forall_mem_cons.mpr ⟨lw_p12, List.forall_mem_cons.mpr ⟨lw_p13, List.forall_mem_cons.mpr ⟨lw_p14, List.forall_mem_cons.mpr ⟨lw_p15, fun _ h => absurd h List.not_mem_nil⟩⟩⟩⟩⟩⟩⟩⟩⟩⟩⟩⟩⟩⟩⟩⟩
theorem lw_p16 : lw_okq (⟨"PaperRoundsModel", "isHouse", "(I)Z"⟩, 20) := ⟨⟨by decide +kernel, by decide +kernel⟩, List.mem_of_getElem? (i := 781) (by decide +kernel), List.mem_of_getElem? (i := 882) (by decide +kernel), List.mem_of_getElem? (i := 883) (by decide +kernel)⟩
theorem lw_p17 : lw_okq (⟨"PaperRoundsModel", "of", "(II)I"⟩, 20) := ⟨⟨by decide +kernel, by decide +kernel⟩, List.mem_of_getElem? (i := 781) (by decide +kernel), List.mem_of_getElem? (i := 886) (by decide +kernel), List.mem_of_getElem? (i := 887) (by decide +kernel)⟩
theorem lw_p18 : lw_okq (⟨"PaperRoundsModel", "pauses", "(III)I"⟩, 20) := ⟨⟨by decide +kernel, by decide +kernel⟩, List.mem_of_getElem? (i := 781) (by decide +kernel), List.mem_of_getElem? (i := 894) (by decide +kernel), List.mem_of_getElem? (i := 895) (by decide +kernel)⟩
theorem lw_p19 : lw_okq (⟨"PaperRoundsModel", "addsCarrier", "(III)V"⟩, 20) := ⟨⟨by decide +kernel, by decide +kernel⟩, List.mem_of_getElem? (i := 781) (by decide +kernel), List.mem_of_getElem? (i := 902) (by decide +kernel), List.mem_of_getElem? (i := 903) (by decide +kernel)⟩
theorem lw_p20 : lw_okq (⟨"PaperRoundsModel", "gives", "(II)I"⟩, 20) := ⟨⟨by decide +kernel, by decide +kernel⟩, List.mem_of_getElem? (i := 781) (by decide +kernel), List.mem_of_getElem? (i := 910) (by decide +kernel), List.mem_of_getElem? (i := 911) (by decide +kernel)⟩
theorem lw_p21 : lw_okq (⟨"PaperRoundsModel", "isCarrier", "(I)Z"⟩, 20) := ⟨⟨by decide +kernel, by decide +kernel⟩, List.mem_of_getElem? (i := 781) (by decide +kernel), List.mem_of_getElem? (i := 914) (by decide +kernel), List.mem_of_getElem? (i := 915) (by decide +kernel)⟩
theorem lw_p22 : lw_okq (⟨"PaperRoundsModel", "canReach", "(II)Z"⟩, 20) := ⟨⟨by decide +kernel, by decide +kernel⟩, List.mem_of_getElem? (i := 781) (by decide +kernel), List.mem_of_getElem? (i := 918) (by decide +kernel), List.mem_of_getElem? (i := 919) (by decide +kernel)⟩
theorem lw_p23 : lw_okq (⟨"PaperRoundsModel", "ofCarrier", "(II)I"⟩, 20) := ⟨⟨by decide +kernel, by decide +kernel⟩, List.mem_of_getElem? (i := 781) (by decide +kernel), List.mem_of_getElem? (i := 922) (by decide +kernel), List.mem_of_getElem? (i := 923) (by decide +kernel)⟩
theorem lw_p24 : lw_okq (⟨"PaperRoundsModel", "cartsCome", "(I)Z"⟩, 20) := ⟨⟨by decide +kernel, by decide +kernel⟩, List.mem_of_getElem? (i := 781) (by decide +kernel), List.mem_of_getElem? (i := 926) (by decide +kernel), List.mem_of_getElem? (i := 927) (by decide +kernel)⟩
theorem lw_p25 : lw_okq (⟨"PaperRoundsModel", "ofCorner", "(II)I"⟩, 20) := ⟨⟨by decide +kernel, by decide +kernel⟩, List.mem_of_getElem? (i := 781) (by decide +kernel), List.mem_of_getElem? (i := 930) (by decide +kernel), List.mem_of_getElem? (i := 931) (by decide +kernel)⟩
theorem lw_p26 : lw_okq (⟨"PaperRoundsModel", "housesOf", "(I)I"⟩, 20) := ⟨⟨by decide +kernel, by decide +kernel⟩, List.mem_of_getElem? (i := 781) (by decide +kernel), List.mem_of_getElem? (i := 934) (by decide +kernel), List.mem_of_getElem? (i := 935) (by decide +kernel)⟩
theorem lw_p27 : lw_okq (⟨"PaperRoundsModel", "givesNone", "(I)I"⟩, 20) := ⟨⟨by decide +kernel, by decide +kernel⟩, List.mem_of_getElem? (i := 781) (by decide +kernel), List.mem_of_getElem? (i := 942) (by decide +kernel), List.mem_of_getElem? (i := 943) (by decide +kernel)⟩
theorem lw_p28 : lw_okq (⟨"PaperRoundsModel", "addsBiscuits", "(II)I"⟩, 20) := ⟨⟨by decide +kernel, by decide +kernel⟩, List.mem_of_getElem? (i := 781) (by decide +kernel), List.mem_of_getElem? (i := 950) (by decide +kernel), List.mem_of_getElem? (i := 951) (by decide +kernel)⟩
theorem lw_p29 : lw_okq (⟨"PaperRoundsModel", "daysGo", "(I)I"⟩, 20) := ⟨⟨by decide +kernel, by decide +kernel⟩, List.mem_of_getElem? (i := 781) (by decide +kernel), List.mem_of_getElem? (i := 962) (by decide +kernel), List.mem_of_getElem? (i := 963) (by decide +kernel)⟩
theorem lw_p30 : lw_okq (⟨"PaperRoundsModel", "dayGoes", "()I"⟩, 20) := ⟨⟨by decide +kernel, by decide +kernel⟩, List.mem_of_getElem? (i := 781) (by decide +kernel), List.mem_of_getElem? (i := 966) (by decide +kernel), List.mem_of_getElem? (i := 967) (by decide +kernel)⟩
theorem lw_p31 : lw_okq (⟨"PaperRoundsModel", "isPaused", "(II)Z"⟩, 20) := ⟨⟨by decide +kernel, by decide +kernel⟩, List.mem_of_getElem? (i := 781) (by decide +kernel), List.mem_of_getElem? (i := 970) (by decide +kernel), List.mem_of_getElem? (i := 971) (by decide +kernel)⟩
def lw_privs_2 : List (MethodName × Nat) := [(⟨"PaperRoundsModel", "isHouse", "(I)Z"⟩, 20), (⟨"PaperRoundsModel", "of", "(II)I"⟩, 20), (⟨"PaperRoundsModel", "pauses", "(III)I"⟩, 20), (⟨"PaperRoundsModel", "addsCarrier", "(III)V"⟩, 20), (⟨"PaperRoundsModel", "gives", "(II)I"⟩, 20), (⟨"PaperRoundsModel", "isCarrier", "(I)Z"⟩, 20), (⟨"PaperRoundsModel", "canReach", "(II)Z"⟩, 20), (⟨"PaperRoundsModel", "ofCarrier", "(II)I"⟩, 20), (⟨"PaperRoundsModel", "cartsCome", "(I)Z"⟩, 20), (⟨"PaperRoundsModel", "ofCorner", "(II)I"⟩, 20), (⟨"PaperRoundsModel", "housesOf", "(I)I"⟩, 20), (⟨"PaperRoundsModel", "givesNone", "(I)I"⟩, 20), (⟨"PaperRoundsModel", "addsBiscuits", "(II)I"⟩, 20), (⟨"PaperRoundsModel", "daysGo", "(I)I"⟩, 20), (⟨"PaperRoundsModel", "dayGoes", "()I"⟩, 20), (⟨"PaperRoundsModel", "isPaused", "(II)Z"⟩, 20)]
theorem lw_r2 : ∀ q ∈ lw_privs_2, lw_okq q := List.forall_mem_cons.mpr ⟨lw_p16, List.forall_mem_cons.mpr ⟨lw_p17, List.forall_mem_cons.mpr ⟨lw_p18, List.forall_mem_cons.mpr ⟨lw_p19, List.forall_mem_cons.mpr ⟨lw_p20, List.forall_mem_cons.mpr ⟨lw_p21, List.forall_mem_cons.mpr ⟨lw_p22, List.forall_mem_cons.mpr ⟨lw_p23, List.forall_mem_cons.mpr ⟨lw_p24, List.forall_mem_cons.mpr ⟨lw_p25, List.forall_mem_cons.mpr ⟨lw_p26, List.forall_mem_cons.mpr ⟨lw_p27, List.forall_mem_cons.mpr ⟨lw_p28, List.forall_mem_cons.mpr ⟨lw_p29, List.forall_mem_cons.mpr ⟨lw_p30, List.forall_mem_cons.mpr ⟨lw_p31, fun _ h => absurd h List.not_mem_nil⟩⟩⟩⟩⟩⟩⟩⟩⟩⟩⟩⟩⟩⟩⟩⟩
theorem lw_p32 : lw_okq (⟨"PaperRoundsModel", "become", "(II)V"⟩, 20) := ⟨⟨by decide +kernel, by decide +kernel⟩, List.mem_of_getElem? (i := 781) (by decide +kernel), List.mem_of_getElem? (i := 974) (by decide +kernel), List.mem_of_getElem? (i := 975) (by decide +kernel)⟩
theorem lw_p33 : lw_okq (⟨"PaperRoundsModel", "complains", "(I)V"⟩, 20) := ⟨⟨by decide +kernel, by decide +kernel⟩, List.mem_of_getElem? (i := 781) (by decide +kernel), List.mem_of_getElem? (i := 978) (by decide +kernel), List.mem_of_getElem? (i := 979) (by decide +kernel)⟩
theorem lw_p34 : lw_okq (⟨"PaperRoundsModel", "goes", "(IIZ)I"⟩, 20) := ⟨⟨by decide +kernel, by decide +kernel⟩, List.mem_of_getElem? (i := 781) (by decide +kernel), List.mem_of_getElem? (i := 982) (by decide +kernel), List.mem_of_getElem? (i := 983) (by decide +kernel)⟩
theorem lw_p35 : lw_okq (⟨"PaperRoundsModel", "laysRow", "()V"⟩, 20) := ⟨⟨by decide +kernel, by decide +kernel⟩, List.mem_of_getElem? (i := 781) (by decide +kernel), List.mem_of_getElem? (i := 986) (by decide +kernel), List.mem_of_getElem? (i := 987) (by decide +kernel)⟩
theorem lw_p36 : lw_okq (⟨"PaperRoundsModel", "isBeyond", "(II)Z"⟩, 20) := ⟨⟨by decide +kernel, by decide +kernel⟩, List.mem_of_getElem? (i := 781) (by decide +kernel), List.mem_of_getElem? (i := 990) (by decide +kernel), List.mem_of_getElem? (i := 991) (by decide +kernel)⟩
theorem lw_p37 : lw_okq (⟨"PaperRoundsModel", "weightOn", "(II)I"⟩, 20) := ⟨⟨by decide +kernel, by decide +kernel⟩, List.mem_of_getElem? (i := 781) (by decide +kernel), List.mem_of_getElem? (i := 994) (by decide +kernel), List.mem_of_getElem? (i := 995) (by decide +kernel)⟩
theorem lw_p38 : lw_okq (⟨"PaperRoundsModel", "endsTrip", "(I)V"⟩, 20) := ⟨⟨by decide +kernel, by decide +kernel⟩, List.mem_of_getElem? (i := 781) (by decide +kernel), List.mem_of_getElem? (i := 998) (by decide +kernel), List.mem_of_getElem? (i := 999) (by decide +kernel)⟩
theorem lw_p39 : lw_okq (⟨"PaperRoundsModel", "loads", "(II)V"⟩, 20) := ⟨⟨by decide +kernel, by decide +kernel⟩, List.mem_of_getElem? (i := 781) (by decide +kernel), List.mem_of_getElem? (i := 1002) (by decide +kernel), List.mem_of_getElem? (i := 1003) (by decide +kernel)⟩
theorem lw_p40 : lw_okq (⟨"PaperRoundsModel", "isOut", "(II)Z"⟩, 20) := ⟨⟨by decide +kernel, by decide +kernel⟩, List.mem_of_getElem? (i := 781) (by decide +kernel), List.mem_of_getElem? (i := 1006) (by decide +kernel), List.mem_of_getElem? (i := 1007) (by decide +kernel)⟩
theorem lw_p41 : lw_okq (⟨"PaperRoundsModel", "delivers", "(III)Z"⟩, 20) := ⟨⟨by decide +kernel, by decide +kernel⟩, List.mem_of_getElem? (i := 781) (by decide +kernel), List.mem_of_getElem? (i := 1010) (by decide +kernel), List.mem_of_getElem? (i := 1011) (by decide +kernel)⟩
theorem lw_p42 : lw_okq (⟨"PaperRoundsModel", "tips", "(I)V"⟩, 20) := ⟨⟨by decide +kernel, by decide +kernel⟩, List.mem_of_getElem? (i := 781) (by decide +kernel), List.mem_of_getElem? (i := 1014) (by decide +kernel), List.mem_of_getElem? (i := 1015) (by decide +kernel)⟩
theorem lw_p43 : lw_okq (⟨"PaperRoundsModel", "farOf", "(I)I"⟩, 20) := ⟨⟨by decide +kernel, by decide +kernel⟩, List.mem_of_getElem? (i := 781) (by decide +kernel), List.mem_of_getElem? (i := 1022) (by decide +kernel), List.mem_of_getElem? (i := 1023) (by decide +kernel)⟩
theorem lw_p44 : lw_okq (⟨"PaperRoundsModel", "housesBeyond", "(I)I"⟩, 20) := ⟨⟨by decide +kernel, by decide +kernel⟩, List.mem_of_getElem? (i := 781) (by decide +kernel), List.mem_of_getElem? (i := 1026) (by decide +kernel), List.mem_of_getElem? (i := 1027) (by decide +kernel)⟩
theorem lw_p45 : lw_okq (⟨"PaperRoundsModel", "dueOf", "(I)I"⟩, 20) := ⟨⟨by decide +kernel, by decide +kernel⟩, List.mem_of_getElem? (i := 781) (by decide +kernel), List.mem_of_getElem? (i := 1038) (by decide +kernel), List.mem_of_getElem? (i := 1039) (by decide +kernel)⟩
theorem lw_p46 : lw_okq (⟨"PaperRoundsModel", "shareOf", "(I)F"⟩, 20) := ⟨⟨by decide +kernel, by decide +kernel⟩, List.mem_of_getElem? (i := 781) (by decide +kernel), List.mem_of_getElem? (i := 1042) (by decide +kernel), List.mem_of_getElem? (i := 1043) (by decide +kernel)⟩
theorem lw_p47 : lw_okq (⟨"PaperRoundsModel", "moreBy", "(III)I"⟩, 20) := ⟨⟨by decide +kernel, by decide +kernel⟩, List.mem_of_getElem? (i := 781) (by decide +kernel), List.mem_of_getElem? (i := 1074) (by decide +kernel), List.mem_of_getElem? (i := 1075) (by decide +kernel)⟩
def lw_privs_3 : List (MethodName × Nat) := [(⟨"PaperRoundsModel", "become", "(II)V"⟩, 20), (⟨"PaperRoundsModel", "complains", "(I)V"⟩, 20), (⟨"PaperRoundsModel", "goes", "(IIZ)I"⟩, 20), (⟨"PaperRoundsModel", "laysRow", "()V"⟩, 20), (⟨"PaperRoundsModel", "isBeyond", "(II)Z"⟩, 20), (⟨"PaperRoundsModel", "weightOn", "(II)I"⟩, 20), (⟨"PaperRoundsModel", "endsTrip", "(I)V"⟩, 20), (⟨"PaperRoundsModel", "loads", "(II)V"⟩, 20), (⟨"PaperRoundsModel", "isOut", "(II)Z"⟩, 20), (⟨"PaperRoundsModel", "delivers", "(III)Z"⟩, 20), (⟨"PaperRoundsModel", "tips", "(I)V"⟩, 20), (⟨"PaperRoundsModel", "farOf", "(I)I"⟩, 20), (⟨"PaperRoundsModel", "housesBeyond", "(I)I"⟩, 20), (⟨"PaperRoundsModel", "dueOf", "(I)I"⟩, 20), (⟨"PaperRoundsModel", "shareOf", "(I)F"⟩, 20), (⟨"PaperRoundsModel", "moreBy", "(III)I"⟩, 20)]
theorem lw_r3 : ∀ q ∈ lw_privs_3, lw_okq q := List.forall_mem_cons.mpr ⟨lw_p32, List.forall_mem_cons.mpr ⟨lw_p33, List.forall_mem_cons.mpr ⟨lw_p34, List.forall_mem_cons.mpr ⟨lw_p35, List.forall_mem_cons.mpr ⟨lw_p36, List.forall_mem_cons.mpr ⟨lw_p37, List.forall_mem_cons.mpr ⟨lw_p38, List.forall_mem_cons.mpr ⟨lw_p39, List.forall_mem_cons.mpr ⟨lw_p40, List.forall_mem_cons.mpr ⟨lw_p41, List.forall_mem_cons.mpr ⟨lw_p42, List.forall_mem_cons.mpr ⟨lw_p43, List.forall_mem_cons.mpr ⟨lw_p44, List.forall_mem_cons.mpr ⟨lw_p45, List.forall_mem_cons.mpr ⟨lw_p46, List.forall_mem_cons.mpr ⟨lw_p47, fun _ h => absurd h List.not_mem_nil⟩⟩⟩⟩⟩⟩⟩⟩⟩⟩⟩⟩⟩⟩⟩⟩
theorem lw_p48 : lw_okq (⟨"PaperRoundsModel", "overHouses", "(I)I"⟩, 20) := ⟨⟨by decide +kernel, by decide +kernel⟩, List.mem_of_getElem? (i := 781) (by decide +kernel), List.mem_of_getElem? (i := 1086) (by decide +kernel), List.mem_of_getElem? (i := 1087) (by decide +kernel)⟩
theorem lw_p49 : lw_okq (⟨"PaperRoundsModel", "pausedNow", "()I"⟩, 20) := ⟨⟨by decide +kernel, by decide +kernel⟩, List.mem_of_getElem? (i := 781) (by decide +kernel), List.mem_of_getElem? (i := 1094) (by decide +kernel), List.mem_of_getElem? (i := 1095) (by decide +kernel)⟩
theorem lw_p50 : lw_okq (⟨"PaperRoundsModel", "tipsAll", "()I"⟩, 20) := ⟨⟨by decide +kernel, by decide +kernel⟩, List.mem_of_getElem? (i := 781) (by decide +kernel), List.mem_of_getElem? (i := 1098) (by decide +kernel), List.mem_of_getElem? (i := 1099) (by decide +kernel)⟩
theorem lw_p51 : lw_okq (⟨"PaperRoundsModel", "looks", "()I"⟩, 20) := ⟨⟨by decide +kernel, by decide +kernel⟩, List.mem_of_getElem? (i := 781) (by decide +kernel), List.mem_of_getElem? (i := 1118) (by decide +kernel), List.mem_of_getElem? (i := 1119) (by decide +kernel)⟩
theorem lw_p52 : lw_okq (⟨"PaperRoundsModel", "doesAll", "()I"⟩, 20) := ⟨⟨by decide +kernel, by decide +kernel⟩, List.mem_of_getElem? (i := 781) (by decide +kernel), List.mem_of_getElem? (i := 1122) (by decide +kernel), List.mem_of_getElem? (i := 1123) (by decide +kernel)⟩
theorem lw_p53 : lw_okq (⟨"PaperRoundsModel", "reads", "(I)Z"⟩, 20) := ⟨⟨by decide +kernel, by decide +kernel⟩, List.mem_of_getElem? (i := 781) (by decide +kernel), List.mem_of_getElem? (i := 1126) (by decide +kernel), List.mem_of_getElem? (i := 1127) (by decide +kernel)⟩
theorem lw_p54 : lw_okq (⟨"PaperRoundsModel", "signAt", "(I)I"⟩, 20) := ⟨⟨by decide +kernel, by decide +kernel⟩, List.mem_of_getElem? (i := 781) (by decide +kernel), List.mem_of_getElem? (i := 1130) (by decide +kernel), List.mem_of_getElem? (i := 1131) (by decide +kernel)⟩
theorem lw_p55 : lw_okq (⟨"PaperRoundsModel", "readsNumber", "(I)Z"⟩, 20) := ⟨⟨by decide +kernel, by decide +kernel⟩, List.mem_of_getElem? (i := 781) (by decide +kernel), List.mem_of_getElem? (i := 1134) (by decide +kernel), List.mem_of_getElem? (i := 1135) (by decide +kernel)⟩
theorem lw_p56 : lw_okq (⟨"PaperRoundsModel", "does", "()I"⟩, 20) := ⟨⟨by decide +kernel, by decide +kernel⟩, List.mem_of_getElem? (i := 781) (by decide +kernel), List.mem_of_getElem? (i := 1138) (by decide +kernel), List.mem_of_getElem? (i := 1139) (by decide +kernel)⟩
def lw_privs_4 : List (MethodName × Nat) := [(⟨"PaperRoundsModel", "overHouses", "(I)I"⟩, 20), (⟨"PaperRoundsModel", "pausedNow", "()I"⟩, 20), (⟨"PaperRoundsModel", "tipsAll", "()I"⟩, 20), (⟨"PaperRoundsModel", "looks", "()I"⟩, 20), (⟨"PaperRoundsModel", "doesAll", "()I"⟩, 20), (⟨"PaperRoundsModel", "reads", "(I)Z"⟩, 20), (⟨"PaperRoundsModel", "signAt", "(I)I"⟩, 20), (⟨"PaperRoundsModel", "readsNumber", "(I)Z"⟩, 20), (⟨"PaperRoundsModel", "does", "()I"⟩, 20)]
theorem lw_r4 : ∀ q ∈ lw_privs_4, lw_okq q := List.forall_mem_cons.mpr ⟨lw_p48, List.forall_mem_cons.mpr ⟨lw_p49, List.forall_mem_cons.mpr ⟨lw_p50, List.forall_mem_cons.mpr ⟨lw_p51, List.forall_mem_cons.mpr ⟨lw_p52, List.forall_mem_cons.mpr ⟨lw_p53, List.forall_mem_cons.mpr ⟨lw_p54, List.forall_mem_cons.mpr ⟨lw_p55, List.forall_mem_cons.mpr ⟨lw_p56, fun _ h => absurd h List.not_mem_nil⟩⟩⟩⟩⟩⟩⟩⟩⟩
def lw_privs : List (MethodName × Nat) := lw_privs_1 ++ (lw_privs_2 ++ (lw_privs_3 ++ (lw_privs_4)))
def lw_tbl : List Cond := k2_sels lw_privs ++ tables_1
theorem lw_privs_ok : ∀ q ∈ lw_privs, lw_okq q := by
  show ∀ q ∈ lw_privs_1 ++ (lw_privs_2 ++ (lw_privs_3 ++ (lw_privs_4))), lw_okq q
  exact List.forall_mem_append.mpr ⟨lw_r1, List.forall_mem_append.mpr ⟨lw_r2, List.forall_mem_append.mpr ⟨lw_r3, lw_r4⟩⟩⟩
/-- the streams that the claim lets the run draw from -/
abbrev lw_cs : List Choice := [Jvm.Choice.named "NaN.bits"]
theorem lw_bits : nanBits ∈ lw_cs := by first | decide | exact List.mem_cons_self | simp [lw_cs, nanBits]
-- ===== end of PART A; then your names; then what follows =====
theorem goodIn_r {big : List Cond} (ws : List Cond) (ps : List Nat) (hp : ws = ps.filterMap (fun i => big[i]?)) (h : ws.all goodWord = true) : GoodIn big ws := by
  intro w hw
  have h1 := List.all_eq_true.mp h w hw
  rw [hp] at hw
  obtain ⟨i, -, hi⟩ := List.mem_filterMap.mp hw
  have hm : w ∈ big := by first | exact List.mem_of_getElem? hi | exact List.getElem?_mem hi
  exact ⟨hm, good_of_word h1⟩
theorem goodIn_app {big a b : List Cond} (ha : GoodIn big a) (hb : GoodIn big b) : GoodIn big (a ++ b) := fun w h => (List.mem_append.mp h).elim (ha w) (hb w)
theorem goodIn_ca {big a b : List Cond} {c : Cond} (ha : GoodIn big (c :: a)) (hb : GoodIn big b) : GoodIn big (c :: (a ++ b)) := fun w h => (List.mem_cons.mp h).elim (fun e => ha w (List.mem_cons.mpr (Or.inl e))) (fun h => (List.mem_append.mp h).elim (fun h => ha w (List.mem_cons.mpr (Or.inr h))) (hb w))
theorem goodIn_sub {big ws : List Cond} (hm : ∀ w ∈ ws, w ∈ big) (h : ws.all goodWord = true) : GoodIn big ws := fun w hw => ⟨hm w hw, good_of_word (List.all_eq_true.mp h w hw)⟩
def RX0 : String := "PaperRounds$Carriers"
def TX0 : u_T := fun k => match k with
  | 0 => ("PaperRounds$Carriers", "many", "I", false)
  | 1 => ("PaperRounds$Carriers", "cart", "[I", true)
  | 2 => ("PaperRounds$Carriers", "limit", "[I", true)
  | 3 => ("PaperRounds$Carriers", "biscuits", "[I", true)
  | 4 => ("PaperRounds$Carriers", "trips", "[I", true)
  | 5 => ("PaperRounds$Carriers", "effort", "[I", true)
  | 6 => ("PaperRounds$Carriers", "tips", "[I", true)
  | _ => ("PaperRounds$Carriers", "delivered", "[I", true)
def tyX0 : Nat → FieldType := fun k => match k with
  | 0 => .int
  | 1 => .array .int
  | 2 => .array .int
  | 3 => .array .int
  | 4 => .array .int
  | 5 => .array .int
  | 6 => .array .int
  | _ => .array .int
abbrev wsX00 : List Cond := u_ws RX0 TX0 8
theorem nmX0 : ∀ a, a < 8 → ∀ b, b < 8 → a ≠ b → (TX0 a).2.1 ≠ (TX0 b).2.1 := by decide +kernel
theorem tyX0_ok : ∀ k, k < 8 → parseFieldDescriptor (TX0 k).2.2.1 = some (tyX0 k) := by decide +kernel
abbrev cX0_init : ByteArray := prog_2_method_1_code
def yX0_init : MethodName := ⟨RX0, "<init>", "()V"⟩
abbrev cX0_copyFrom : ByteArray := prog_2_method_2_code
def yX0_copyFrom : MethodName := ⟨RX0, "copyFrom", "(LPaperRounds$Carriers;)V"⟩
abbrev cX0_has : ByteArray := prog_2_method_3_code
def yX0_has : MethodName := ⟨RX0, "has", "(I)Z"⟩
abbrev cX0_add : ByteArray := prog_2_method_4_code
def yX0_add : MethodName := ⟨RX0, "add", "(II)I"⟩
abbrev cX0_allTips : ByteArray := prog_2_method_5_code
def yX0_allTips : MethodName := ⟨RX0, "allTips", "()I"⟩
def RX1 : String := "PaperRounds$History"
def TX1 : u_T := fun k => match k with
  | 0 => ("PaperRounds$History", "kept", "I", false)
  | 1 => ("PaperRounds$History", "oldest", "I", false)
  | _ => ("PaperRounds$History", "rows", "[LPaperRounds$Town;", true)
def tyX1 : Nat → FieldType := fun k => match k with
  | 0 => .int
  | 1 => .int
  | _ => .array (.object "PaperRounds$Town")
abbrev wsX10 : List Cond := u_ws RX1 TX1 3
theorem nmX1 : ∀ a, a < 3 → ∀ b, b < 3 → a ≠ b → (TX1 a).2.1 ≠ (TX1 b).2.1 := by decide +kernel
theorem tyX1_ok : ∀ k, k < 3 → parseFieldDescriptor (TX1 k).2.2.1 = some (tyX1 k) := by decide +kernel
abbrev cX1_init : ByteArray := prog_3_method_1_code
def yX1_init : MethodName := ⟨RX1, "<init>", "()V"⟩
abbrev cX1_prepare : ByteArray := prog_3_method_2_code
def yX1_prepare : MethodName := ⟨RX1, "prepare", "(LPaperRounds$Town;)V"⟩
abbrev cX1_keepPrepared : ByteArray := prog_3_method_3_code
def yX1_keepPrepared : MethodName := ⟨RX1, "keepPrepared", "()V"⟩
abbrev cX1_restoreInto : ByteArray := prog_3_method_4_code
def yX1_restoreInto : MethodName := ⟨RX1, "restoreInto", "(LPaperRounds$Town;)V"⟩
def RX2 : String := "PaperRounds$Houses"
def TX2 : u_T := fun k => match k with
  | 0 => ("PaperRounds$Houses", "many", "I", false)
  | 1 => ("PaperRounds$Houses", "corner", "[I", true)
  | 2 => ("PaperRounds$Houses", "papers", "[I", true)
  | 3 => ("PaperRounds$Houses", "tip", "[I", true)
  | 4 => ("PaperRounds$Houses", "carrier", "[I", true)
  | 5 => ("PaperRounds$Houses", "period", "[I", true)
  | 6 => ("PaperRounds$Houses", "phase", "[I", true)
  | 7 => ("PaperRounds$Houses", "delivered", "[I", true)
  | 8 => ("PaperRounds$Houses", "paused", "[I", true)
  | 9 => ("PaperRounds$Houses", "returned", "[I", true)
  | 10 => ("PaperRounds$Houses", "lost", "[I", true)
  | 11 => ("PaperRounds$Houses", "complaints", "[I", true)
  | 12 => ("PaperRounds$Houses", "freshComplaints", "[I", true)
  | 13 => ("PaperRounds$Houses", "freshDelivered", "[I", true)
  | _ => ("PaperRounds$Houses", "order", "[I", true)
def tyX2 : Nat → FieldType := fun k => match k with
  | 0 => .int
  | 1 => .array .int
  | 2 => .array .int
  | 3 => .array .int
  | 4 => .array .int
  | 5 => .array .int
  | 6 => .array .int
  | 7 => .array .int
  | 8 => .array .int
  | 9 => .array .int
  | 10 => .array .int
  | 11 => .array .int
  | 12 => .array .int
  | 13 => .array .int
  | _ => .array .int
abbrev wsX20 : List Cond := u_ws RX2 TX2 15
theorem nmX2 : ∀ a, a < 15 → ∀ b, b < 15 → a ≠ b → (TX2 a).2.1 ≠ (TX2 b).2.1 := by decide +kernel
theorem tyX2_ok : ∀ k, k < 15 → parseFieldDescriptor (TX2 k).2.2.1 = some (tyX2 k) := by decide +kernel
abbrev cX2_init : ByteArray := prog_4_method_1_code
def yX2_init : MethodName := ⟨RX2, "<init>", "()V"⟩
abbrev cX2_copyFrom : ByteArray := prog_4_method_2_code
def yX2_copyFrom : MethodName := ⟨RX2, "copyFrom", "(LPaperRounds$Houses;)V"⟩
abbrev cX2_has : ByteArray := prog_4_method_3_code
def yX2_has : MethodName := ⟨RX2, "has", "(I)Z"⟩
abbrev cX2_add : ByteArray := prog_4_method_4_code
def yX2_add : MethodName := ⟨RX2, "add", "(LPaperRounds$Streets;III)I"⟩
abbrev cX2_makeOrder : ByteArray := prog_4_method_5_code
def yX2_makeOrder : MethodName := ⟨RX2, "makeOrder", "(LPaperRounds$Streets;)V"⟩
abbrev cX2_manyOf : ByteArray := prog_4_method_6_code
def yX2_manyOf : MethodName := ⟨RX2, "manyOf", "(I)I"⟩
abbrev cX2_dogIsOut : ByteArray := prog_4_method_7_code
def yX2_dogIsOut : MethodName := ⟨RX2, "dogIsOut", "(II)Z"⟩
abbrev cX2_complain : ByteArray := prog_4_method_8_code
def yX2_complain : MethodName := ⟨RX2, "complain", "(I)V"⟩
abbrev cX2_allComplaints : ByteArray := prog_4_method_9_code
def yX2_allComplaints : MethodName := ⟨RX2, "allComplaints", "()I"⟩
abbrev cX2_papersDue : ByteArray := prog_4_method_10_code
def yX2_papersDue : MethodName := ⟨RX2, "papersDue", "(I)I"⟩
abbrev cX2_share : ByteArray := prog_4_method_11_code
def yX2_share : MethodName := ⟨RX2, "share", "(I)F"⟩
abbrev cX2_tipNow : ByteArray := prog_4_method_12_code
def yX2_tipNow : MethodName := ⟨RX2, "tipNow", "(I)I"⟩
abbrev cX2_beginWeek : ByteArray := prog_4_method_13_code
def yX2_beginWeek : MethodName := ⟨RX2, "beginWeek", "()V"⟩
def RX3 : String := "PaperRounds$Pauses"
def TX3 : u_T := fun k => match k with
  | 0 => ("PaperRounds$Pauses", "many", "I", false)
  | 1 => ("PaperRounds$Pauses", "house", "[I", true)
  | 2 => ("PaperRounds$Pauses", "first", "[I", true)
  | _ => ("PaperRounds$Pauses", "last", "[I", true)
def tyX3 : Nat → FieldType := fun k => match k with
  | 0 => .int
  | 1 => .array .int
  | 2 => .array .int
  | _ => .array .int
abbrev wsX30 : List Cond := u_ws RX3 TX3 4
theorem nmX3 : ∀ a, a < 4 → ∀ b, b < 4 → a ≠ b → (TX3 a).2.1 ≠ (TX3 b).2.1 := by decide +kernel
theorem tyX3_ok : ∀ k, k < 4 → parseFieldDescriptor (TX3 k).2.2.1 = some (tyX3 k) := by decide +kernel
abbrev cX3_init : ByteArray := prog_5_method_1_code
def yX3_init : MethodName := ⟨RX3, "<init>", "()V"⟩
abbrev cX3_copyFrom : ByteArray := prog_5_method_2_code
def yX3_copyFrom : MethodName := ⟨RX3, "copyFrom", "(LPaperRounds$Pauses;)V"⟩
abbrev cX3_add : ByteArray := prog_5_method_3_code
def yX3_add : MethodName := ⟨RX3, "add", "(III)I"⟩
abbrev cX3_cover : ByteArray := prog_5_method_4_code
def yX3_cover : MethodName := ⟨RX3, "cover", "(II)Z"⟩
def RX4 : String := "PaperRounds$Streets"
def TX4 : u_T := fun k => match k with
  | 0 => ("PaperRounds$Streets", "many", "I", false)
  | 1 => ("PaperRounds$Streets", "ahead", "[I", true)
  | 2 => ("PaperRounds$Streets", "length", "[I", true)
  | 3 => ("PaperRounds$Streets", "height", "[I", true)
  | 4 => ("PaperRounds$Streets", "stairs", "[I", true)
  | 5 => ("PaperRounds$Streets", "depth", "[I", true)
  | 6 => ("PaperRounds$Streets", "distance", "[I", true)
  | 7 => ("PaperRounds$Streets", "cartsCome", "[I", true)
  | _ => ("PaperRounds$Streets", "order", "[I", true)
def tyX4 : Nat → FieldType := fun k => match k with
  | 0 => .int
  | 1 => .array .int
  | 2 => .array .int
  | 3 => .array .int
  | 4 => .array .int
  | 5 => .array .int
  | 6 => .array .int
  | 7 => .array .int
  | _ => .array .int
abbrev wsX40 : List Cond := u_ws RX4 TX4 9
theorem nmX4 : ∀ a, a < 9 → ∀ b, b < 9 → a ≠ b → (TX4 a).2.1 ≠ (TX4 b).2.1 := by decide +kernel
theorem tyX4_ok : ∀ k, k < 9 → parseFieldDescriptor (TX4 k).2.2.1 = some (tyX4 k) := by decide +kernel
abbrev cX4_init : ByteArray := prog_6_method_1_code
def yX4_init : MethodName := ⟨RX4, "<init>", "()V"⟩
abbrev cX4_copyFrom : ByteArray := prog_6_method_2_code
def yX4_copyFrom : MethodName := ⟨RX4, "copyFrom", "(LPaperRounds$Streets;)V"⟩
abbrev cX4_has : ByteArray := prog_6_method_3_code
def yX4_has : MethodName := ⟨RX4, "has", "(I)Z"⟩
abbrev cX4_add : ByteArray := prog_6_method_4_code
def yX4_add : MethodName := ⟨RX4, "add", "(IIII)I"⟩
abbrev cX4_putInOrder : ByteArray := prog_6_method_5_code
def yX4_putInOrder : MethodName := ⟨RX4, "putInOrder", "(I)V"⟩
abbrev cX4_isAtOrBeyond : ByteArray := prog_6_method_6_code
def yX4_isAtOrBeyond : MethodName := ⟨RX4, "isAtOrBeyond", "(II)Z"⟩
abbrev cX4_effortOfStreet : ByteArray := prog_6_method_7_code
def yX4_effortOfStreet : MethodName := ⟨RX4, "effortOfStreet", "(III)I"⟩
def RX5 : String := "PaperRounds$Text"
def TX5 : u_T := fun k => match k with
  | 0 => ("PaperRounds$Text", "length", "I", false)
  | 1 => ("PaperRounds$Text", "signs", "[C", true)
  | 2 => ("PaperRounds$Text", "kind", "C", false)
  | 3 => ("PaperRounds$Text", "next", "I", false)
  | _ => ("PaperRounds$Text", "numbers", "[I", true)
def tyX5 : Nat → FieldType := fun k => match k with
  | 0 => .int
  | 1 => .array .char
  | 2 => .char
  | 3 => .int
  | _ => .array .int
abbrev wsX50 : List Cond := u_ws RX5 TX5 5
theorem nmX5 : ∀ a, a < 5 → ∀ b, b < 5 → a ≠ b → (TX5 a).2.1 ≠ (TX5 b).2.1 := by decide +kernel
theorem tyX5_ok : ∀ k, k < 5 → parseFieldDescriptor (TX5 k).2.2.1 = some (tyX5 k) := by decide +kernel
abbrev cX5_init : ByteArray := prog_7_method_1_code
def yX5_init : MethodName := ⟨RX5, "<init>", "()V"⟩
abbrev cX5_append : ByteArray := prog_7_method_2_code
def yX5_append : MethodName := ⟨RX5, "append", "(C)I"⟩
abbrev cX5_readOrder : ByteArray := prog_7_method_3_code
def yX5_readOrder : MethodName := ⟨RX5, "readOrder", "(I)Z"⟩
abbrev cX5_numbersOf : ByteArray := prog_7_method_4_code
def yX5_numbersOf : MethodName := ⟨RX5, "numbersOf", "(C)I"⟩
abbrev cX5_readNumber : ByteArray := prog_7_method_5_code
def yX5_readNumber : MethodName := ⟨RX5, "readNumber", "()I"⟩
abbrev cX5_readSign : ByteArray := prog_7_method_6_code
def yX5_readSign : MethodName := ⟨RX5, "readSign", "(C)Z"⟩
def RX6 : String := "PaperRounds$Town"
def TX6 : u_T := fun k => match k with
  | 0 => ("PaperRounds$Town", "day", "I", false)
  | 1 => ("PaperRounds$Town", "weight", "I", false)
  | 2 => ("PaperRounds$Town", "sundayWeight", "I", false)
  | 3 => ("PaperRounds$Town", "accounts", "[I", true)
  | 4 => ("PaperRounds$Town", "streets", "LPaperRounds$Streets;", true)
  | 5 => ("PaperRounds$Town", "houses", "LPaperRounds$Houses;", true)
  | 6 => ("PaperRounds$Town", "pauses", "LPaperRounds$Pauses;", true)
  | _ => ("PaperRounds$Town", "carriers", "LPaperRounds$Carriers;", true)
def tyX6 : Nat → FieldType := fun k => match k with
  | 0 => .int
  | 1 => .int
  | 2 => .int
  | 3 => .array .int
  | 4 => .object "PaperRounds$Streets"
  | 5 => .object "PaperRounds$Houses"
  | 6 => .object "PaperRounds$Pauses"
  | _ => .object "PaperRounds$Carriers"
abbrev wsX60 : List Cond := u_ws RX6 TX6 8
theorem nmX6 : ∀ a, a < 8 → ∀ b, b < 8 → a ≠ b → (TX6 a).2.1 ≠ (TX6 b).2.1 := by decide +kernel
theorem tyX6_ok : ∀ k, k < 8 → parseFieldDescriptor (TX6 k).2.2.1 = some (tyX6 k) := by decide +kernel
abbrev cX6_init : ByteArray := prog_8_method_1_code
def yX6_init : MethodName := ⟨RX6, "<init>", "()V"⟩
abbrev cX6_copyFrom : ByteArray := prog_8_method_2_code
def yX6_copyFrom : MethodName := ⟨RX6, "copyFrom", "(LPaperRounds$Town;)V"⟩
abbrev cX6_addCorner : ByteArray := prog_8_method_3_code
def yX6_addCorner : MethodName := ⟨RX6, "addCorner", "(IIII)I"⟩
abbrev cX6_addHouse : ByteArray := prog_8_method_4_code
def yX6_addHouse : MethodName := ⟨RX6, "addHouse", "(III)I"⟩
abbrev cX6_changeDog : ByteArray := prog_8_method_5_code
def yX6_changeDog : MethodName := ⟨RX6, "changeDog", "(III)I"⟩
abbrev cX6_addPause : ByteArray := prog_8_method_6_code
def yX6_addPause : MethodName := ⟨RX6, "addPause", "(III)I"⟩
abbrev cX6_addCarrier : ByteArray := prog_8_method_7_code
def yX6_addCarrier : MethodName := ⟨RX6, "addCarrier", "(II)I"⟩
abbrev cX6_handOver : ByteArray := prog_8_method_8_code
def yX6_handOver : MethodName := ⟨RX6, "handOver", "(II)I"⟩
abbrev cX6_takeBack : ByteArray := prog_8_method_9_code
def yX6_takeBack : MethodName := ⟨RX6, "takeBack", "(I)I"⟩
abbrev cX6_addBiscuits : ByteArray := prog_8_method_10_code
def yX6_addBiscuits : MethodName := ⟨RX6, "addBiscuits", "(II)I"⟩
abbrev cX6_changeSetting : ByteArray := prog_8_method_11_code
def yX6_changeSetting : MethodName := ⟨RX6, "changeSetting", "(II)I"⟩
abbrev cX6_letDaysGo : ByteArray := prog_8_method_12_code
def yX6_letDaysGo : MethodName := ⟨RX6, "letDaysGo", "(ILPaperRounds$Walk;)I"⟩
abbrev cX6_bringPapers : ByteArray := prog_8_method_13_code
def yX6_bringPapers : MethodName := ⟨RX6, "bringPapers", "()V"⟩
abbrev cX6_fateOfPapers : ByteArray := prog_8_method_14_code
def yX6_fateOfPapers : MethodName := ⟨RX6, "fateOfPapers", "(I)I"⟩
abbrev cX6_book : ByteArray := prog_8_method_15_code
def yX6_book : MethodName := ⟨RX6, "book", "(III)V"⟩
abbrev cX6_payTips : ByteArray := prog_8_method_16_code
def yX6_payTips : MethodName := ⟨RX6, "payTips", "()V"⟩
abbrev cX6_weightOn : ByteArray := prog_8_method_17_code
def yX6_weightOn : MethodName := ⟨RX6, "weightOn", "(I)I"⟩
abbrev cX6_isSunday : ByteArray := prog_8_method_18_code
def yX6_isSunday : MethodName := ⟨RX6, "isSunday", "(I)Z"⟩
abbrev cX6_canReach : ByteArray := prog_8_method_19_code
def yX6_canReach : MethodName := ⟨RX6, "canReach", "(II)Z"⟩
abbrev cX6_housesFrom : ByteArray := prog_8_method_20_code
def yX6_housesFrom : MethodName := ⟨RX6, "housesFrom", "(I)I"⟩
abbrev cX6_housesPaused : ByteArray := prog_8_method_21_code
def yX6_housesPaused : MethodName := ⟨RX6, "housesPaused", "()I"⟩
def RX7 : String := "PaperRounds$Trial"
def TX7 : u_T := fun k => match k with
  | 0 => ("PaperRounds$Trial", "town", "LPaperRounds$Town;", true)
  | 1 => ("PaperRounds$Trial", "orders", "I", false)
  | 2 => ("PaperRounds$Trial", "position", "I", false)
  | 3 => ("PaperRounds$Trial", "reason", "I", false)
  | _ => ("PaperRounds$Trial", "cause", "I", false)
def tyX7 : Nat → FieldType := fun k => match k with
  | 0 => .object "PaperRounds$Town"
  | 1 => .int
  | 2 => .int
  | 3 => .int
  | _ => .int
abbrev wsX70 : List Cond := u_ws RX7 TX7 5
theorem nmX7 : ∀ a, a < 5 → ∀ b, b < 5 → a ≠ b → (TX7 a).2.1 ≠ (TX7 b).2.1 := by decide +kernel
theorem tyX7_ok : ∀ k, k < 5 → parseFieldDescriptor (TX7 k).2.2.1 = some (tyX7 k) := by decide +kernel
abbrev cX7_init : ByteArray := prog_9_method_1_code
def yX7_init : MethodName := ⟨RX7, "<init>", "()V"⟩
abbrev cX7_run : ByteArray := prog_9_method_2_code
def yX7_run : MethodName := ⟨RX7, "run", "(LPaperRounds$Town;LPaperRounds$Text;LPaperRounds$Walk;)V"⟩
abbrev cX7_answerOf : ByteArray := prog_9_method_3_code
def yX7_answerOf : MethodName := ⟨RX7, "answerOf", "(C[ILPaperRounds$Walk;)I"⟩
def RX8 : String := "PaperRounds$Walk"
def TX8 : u_T := fun k => match k with
  | 0 => ("PaperRounds$Walk", "trips", "I", false)
  | 1 => ("PaperRounds$Walk", "effort", "I", false)
  | 2 => ("PaperRounds$Walk", "papers", "I", false)
  | 3 => ("PaperRounds$Walk", "dogs", "I", false)
  | 4 => ("PaperRounds$Walk", "onTrip", "I", false)
  | _ => ("PaperRounds$Walk", "load", "[I", true)
def tyX8 : Nat → FieldType := fun k => match k with
  | 0 => .int
  | 1 => .int
  | 2 => .int
  | 3 => .int
  | 4 => .int
  | _ => .array .int
abbrev wsX80 : List Cond := u_ws RX8 TX8 6
theorem nmX8 : ∀ a, a < 6 → ∀ b, b < 6 → a ≠ b → (TX8 a).2.1 ≠ (TX8 b).2.1 := by decide +kernel
theorem tyX8_ok : ∀ k, k < 6 → parseFieldDescriptor (TX8 k).2.2.1 = some (tyX8 k) := by decide +kernel
abbrev cX8_init : ByteArray := prog_10_method_1_code
def yX8_init : MethodName := ⟨RX8, "<init>", "()V"⟩
abbrev cX8_go : ByteArray := prog_10_method_2_code
def yX8_go : MethodName := ⟨RX8, "go", "(LPaperRounds$Town;III)V"⟩
abbrev cX8_clear : ByteArray := prog_10_method_3_code
def yX8_clear : MethodName := ⟨RX8, "clear", "()V"⟩
abbrev cX8_endTrip : ByteArray := prog_10_method_4_code
def yX8_endTrip : MethodName := ⟨RX8, "endTrip", "(LPaperRounds$Streets;I)V"⟩
abbrev cX8_moreEffort : ByteArray := prog_10_method_5_code
def yX8_moreEffort : MethodName := ⟨RX8, "moreEffort", "(LPaperRounds$Town;III)I"⟩
def RX9 : String := "PaperRounds"
def TX9 : u_T := fun k => match k with
  | 0 => ("PaperRounds", "town", "LPaperRounds$Town;", true)
  | 1 => ("PaperRounds", "history", "LPaperRounds$History;", true)
  | 2 => ("PaperRounds", "walk", "LPaperRounds$Walk;", true)
  | 3 => ("PaperRounds", "text", "LPaperRounds$Text;", true)
  | _ => ("PaperRounds", "trial", "LPaperRounds$Trial;", true)
def tyX9 : Nat → FieldType := fun k => match k with
  | 0 => .object "PaperRounds$Town"
  | 1 => .object "PaperRounds$History"
  | 2 => .object "PaperRounds$Walk"
  | 3 => .object "PaperRounds$Text"
  | _ => .object "PaperRounds$Trial"
abbrev wsX90 : List Cond := u_ws RX9 TX9 5
theorem nmX9 : ∀ a, a < 5 → ∀ b, b < 5 → a ≠ b → (TX9 a).2.1 ≠ (TX9 b).2.1 := by decide +kernel
theorem tyX9_ok : ∀ k, k < 5 → parseFieldDescriptor (TX9 k).2.2.1 = some (tyX9 k) := by decide +kernel
abbrev cX9_init : ByteArray := prog_1_method_1_code
def yX9_init : MethodName := ⟨RX9, "<init>", "()V"⟩
abbrev cX9_corner : ByteArray := prog_1_method_2_code
def yX9_corner : MethodName := ⟨RX9, "corner", "(IIII)I"⟩
abbrev cX9_house : ByteArray := prog_1_method_3_code
def yX9_house : MethodName := ⟨RX9, "house", "(III)I"⟩
abbrev cX9_dog : ByteArray := prog_1_method_4_code
def yX9_dog : MethodName := ⟨RX9, "dog", "(III)I"⟩
abbrev cX9_pause : ByteArray := prog_1_method_5_code
def yX9_pause : MethodName := ⟨RX9, "pause", "(III)I"⟩
abbrev cX9_carrier : ByteArray := prog_1_method_6_code
def yX9_carrier : MethodName := ⟨RX9, "carrier", "(II)I"⟩
abbrev cX9_give : ByteArray := prog_1_method_7_code
def yX9_give : MethodName := ⟨RX9, "give", "(II)I"⟩
abbrev cX9_giveNone : ByteArray := prog_1_method_8_code
def yX9_giveNone : MethodName := ⟨RX9, "giveNone", "(I)I"⟩
abbrev cX9_biscuits : ByteArray := prog_1_method_9_code
def yX9_biscuits : MethodName := ⟨RX9, "biscuits", "(II)I"⟩
abbrev cX9_set : ByteArray := prog_1_method_10_code
def yX9_set : MethodName := ⟨RX9, "set", "(II)I"⟩
abbrev cX9_days : ByteArray := prog_1_method_11_code
def yX9_days : MethodName := ⟨RX9, "days", "(I)I"⟩
abbrev cX9_cornerOf : ByteArray := prog_1_method_12_code
def yX9_cornerOf : MethodName := ⟨RX9, "cornerOf", "(II)I"⟩
abbrev cX9_houseOf : ByteArray := prog_1_method_13_code
def yX9_houseOf : MethodName := ⟨RX9, "houseOf", "(II)I"⟩
abbrev cX9_shareBits : ByteArray := prog_1_method_14_code
def yX9_shareBits : MethodName := ⟨RX9, "shareBits", "(I)I"⟩
abbrev cX9_meanBits : ByteArray := prog_1_method_15_code
def yX9_meanBits : MethodName := ⟨RX9, "meanBits", "()I"⟩
abbrev cX9_carrierOf : ByteArray := prog_1_method_16_code
def yX9_carrierOf : MethodName := ⟨RX9, "carrierOf", "(II)I"⟩
abbrev cX9_pauseOf : ByteArray := prog_1_method_17_code
def yX9_pauseOf : MethodName := ⟨RX9, "pauseOf", "(II)I"⟩
abbrev cX9_roundAt : ByteArray := prog_1_method_18_code
def yX9_roundAt : MethodName := ⟨RX9, "roundAt", "(II)I"⟩
abbrev cX9_round : ByteArray := prog_1_method_19_code
def yX9_round : MethodName := ⟨RX9, "round", "(III)I"⟩
abbrev cX9_lightest : ByteArray := prog_1_method_20_code
def yX9_lightest : MethodName := ⟨RX9, "lightest", "(II)I"⟩
abbrev cX9_nextDog : ByteArray := prog_1_method_21_code
def yX9_nextDog : MethodName := ⟨RX9, "nextDog", "(I)I"⟩
abbrev cX9_account : ByteArray := prog_1_method_22_code
def yX9_account : MethodName := ⟨RX9, "account", "(I)I"⟩
abbrev cX9_count : ByteArray := prog_1_method_23_code
def yX9_count : MethodName := ⟨RX9, "count", "(I)I"⟩
abbrev cX9_undo : ByteArray := prog_1_method_24_code
def yX9_undo : MethodName := ⟨RX9, "undo", "()I"⟩
abbrev cX9_type : ByteArray := prog_1_method_25_code
def yX9_type : MethodName := ⟨RX9, "type", "(I)I"⟩
abbrev cX9_clearText : ByteArray := prog_1_method_26_code
def yX9_clearText : MethodName := ⟨RX9, "clearText", "()I"⟩
abbrev cX9_fault : ByteArray := prog_1_method_27_code
def yX9_fault : MethodName := ⟨RX9, "fault", "(I)I"⟩
abbrev cX9_play : ByteArray := prog_1_method_28_code
def yX9_play : MethodName := ⟨RX9, "play", "()I"⟩
abbrev cX9_settled : ByteArray := prog_1_method_29_code
def yX9_settled : MethodName := ⟨RX9, "settled", "(I)I"⟩
abbrev cX9_within : ByteArray := prog_1_method_30_code
def yX9_within : MethodName := ⟨RX9, "within", "(III)Z"⟩
abbrev cX9_bitsOf : ByteArray := prog_1_method_31_code
def yX9_bitsOf : MethodName := ⟨RX9, "bitsOf", "(F)I"⟩
abbrev cX9_copy : ByteArray := prog_1_method_32_code
def yX9_copy : MethodName := ⟨RX9, "copy", "([I[II)V"⟩
def RX10 : String := "PaperRoundsModel"
def TX10 : u_T := fun k => match k with
  | 0 => ("PaperRoundsModel", "now", "[I", true)
  | 1 => ("PaperRoundsModel", "past", "[I", true)
  | 2 => ("PaperRoundsModel", "pasts", "I", false)
  | 3 => ("PaperRoundsModel", "before", "[I", true)
  | 4 => ("PaperRoundsModel", "tried", "[I", true)
  | 5 => ("PaperRoundsModel", "text", "[I", true)
  | 6 => ("PaperRoundsModel", "typed", "I", false)
  | 7 => ("PaperRoundsModel", "corners", "[I", true)
  | 8 => ("PaperRoundsModel", "row", "[I", true)
  | 9 => ("PaperRoundsModel", "trips", "I", false)
  | 10 => ("PaperRoundsModel", "efforts", "I", false)
  | 11 => ("PaperRoundsModel", "loaded", "I", false)
  | 12 => ("PaperRoundsModel", "dogs", "I", false)
  | 13 => ("PaperRoundsModel", "weights", "[I", true)
  | 14 => ("PaperRoundsModel", "at", "I", false)
  | 15 => ("PaperRoundsModel", "letter", "I", false)
  | 16 => ("PaperRoundsModel", "numbers", "[I", true)
  | 17 => ("PaperRoundsModel", "orders", "I", false)
  | 18 => ("PaperRoundsModel", "faultAt", "I", false)
  | _ => ("PaperRoundsModel", "cause", "I", false)
def tyX10 : Nat → FieldType := fun k => match k with
  | 0 => .array .int
  | 1 => .array .int
  | 2 => .int
  | 3 => .array .int
  | 4 => .array .int
  | 5 => .array .int
  | 6 => .int
  | 7 => .array .int
  | 8 => .array .int
  | 9 => .int
  | 10 => .int
  | 11 => .int
  | 12 => .int
  | 13 => .array .int
  | 14 => .int
  | 15 => .int
  | 16 => .array .int
  | 17 => .int
  | 18 => .int
  | _ => .int
abbrev wsX100 : List Cond := u_ws RX10 TX10 20
theorem nmX10 : ∀ a, a < 20 → ∀ b, b < 20 → a ≠ b → (TX10 a).2.1 ≠ (TX10 b).2.1 := by decide +kernel
theorem tyX10_ok : ∀ k, k < 20 → parseFieldDescriptor (TX10 k).2.2.1 = some (tyX10 k) := by decide +kernel
abbrev cX10_init : ByteArray := prog_12_method_1_code
def yX10_init : MethodName := ⟨RX10, "<init>", "()V"⟩
abbrev cX10_in : ByteArray := prog_12_method_2_code
def yX10_in : MethodName := ⟨RX10, "in", "(III)Z"⟩
abbrev cX10_copies : ByteArray := prog_12_method_3_code
def yX10_copies : MethodName := ⟨RX10, "copies", "([II[II)V"⟩
abbrev cX10_notes : ByteArray := prog_12_method_4_code
def yX10_notes : MethodName := ⟨RX10, "notes", "()V"⟩
abbrev cX10_ends : ByteArray := prog_12_method_5_code
def yX10_ends : MethodName := ⟨RX10, "ends", "(I)I"⟩
abbrev cX10_isCorner : ByteArray := prog_12_method_6_code
def yX10_isCorner : MethodName := ⟨RX10, "isCorner", "(I)Z"⟩
abbrev cX10_isHouse : ByteArray := prog_12_method_7_code
def yX10_isHouse : MethodName := ⟨RX10, "isHouse", "(I)Z"⟩
abbrev cX10_isCarrier : ByteArray := prog_12_method_8_code
def yX10_isCarrier : MethodName := ⟨RX10, "isCarrier", "(I)Z"⟩
abbrev cX10_ofCorner : ByteArray := prog_12_method_9_code
def yX10_ofCorner : MethodName := ⟨RX10, "ofCorner", "(II)I"⟩
abbrev cX10_of : ByteArray := prog_12_method_10_code
def yX10_of : MethodName := ⟨RX10, "of", "(II)I"⟩
abbrev cX10_lays : ByteArray := prog_12_method_11_code
def yX10_lays : MethodName := ⟨RX10, "lays", "(III)V"⟩
abbrev cX10_ofCarrier : ByteArray := prog_12_method_12_code
def yX10_ofCarrier : MethodName := ⟨RX10, "ofCarrier", "(II)I"⟩
abbrev cX10_addsCarrier : ByteArray := prog_12_method_13_code
def yX10_addsCarrier : MethodName := ⟨RX10, "addsCarrier", "(III)V"⟩
abbrev cX10_isBeyond : ByteArray := prog_12_method_14_code
def yX10_isBeyond : MethodName := ⟨RX10, "isBeyond", "(II)Z"⟩
abbrev cX10_cartsCome : ByteArray := prog_12_method_15_code
def yX10_cartsCome : MethodName := ⟨RX10, "cartsCome", "(I)Z"⟩
abbrev cX10_farOf : ByteArray := prog_12_method_16_code
def yX10_farOf : MethodName := ⟨RX10, "farOf", "(I)I"⟩
abbrev cX10_laysRow : ByteArray := prog_12_method_17_code
def yX10_laysRow : MethodName := ⟨RX10, "laysRow", "()V"⟩
abbrev cX10_corner : ByteArray := prog_12_method_18_code
def yX10_corner : MethodName := ⟨RX10, "corner", "(IIII)I"⟩
abbrev cX10_house : ByteArray := prog_12_method_19_code
def yX10_house : MethodName := ⟨RX10, "house", "(III)I"⟩
abbrev cX10_dog : ByteArray := prog_12_method_20_code
def yX10_dog : MethodName := ⟨RX10, "dog", "(III)I"⟩
abbrev cX10_pauses : ByteArray := prog_12_method_21_code
def yX10_pauses : MethodName := ⟨RX10, "pauses", "(III)I"⟩
abbrev cX10_pause : ByteArray := prog_12_method_22_code
def yX10_pause : MethodName := ⟨RX10, "pause", "(III)I"⟩
abbrev cX10_carrier : ByteArray := prog_12_method_23_code
def yX10_carrier : MethodName := ⟨RX10, "carrier", "(II)I"⟩
abbrev cX10_housesOf : ByteArray := prog_12_method_24_code
def yX10_housesOf : MethodName := ⟨RX10, "housesOf", "(I)I"⟩
abbrev cX10_canReach : ByteArray := prog_12_method_25_code
def yX10_canReach : MethodName := ⟨RX10, "canReach", "(II)Z"⟩
abbrev cX10_gives : ByteArray := prog_12_method_26_code
def yX10_gives : MethodName := ⟨RX10, "gives", "(II)I"⟩
abbrev cX10_give : ByteArray := prog_12_method_27_code
def yX10_give : MethodName := ⟨RX10, "give", "(II)I"⟩
abbrev cX10_givesNone : ByteArray := prog_12_method_28_code
def yX10_givesNone : MethodName := ⟨RX10, "givesNone", "(I)I"⟩
abbrev cX10_giveNone : ByteArray := prog_12_method_29_code
def yX10_giveNone : MethodName := ⟨RX10, "giveNone", "(I)I"⟩
abbrev cX10_addsBiscuits : ByteArray := prog_12_method_30_code
def yX10_addsBiscuits : MethodName := ⟨RX10, "addsBiscuits", "(II)I"⟩
abbrev cX10_biscuits : ByteArray := prog_12_method_31_code
def yX10_biscuits : MethodName := ⟨RX10, "biscuits", "(II)I"⟩
abbrev cX10_set : ByteArray := prog_12_method_32_code
def yX10_set : MethodName := ⟨RX10, "set", "(II)I"⟩
abbrev cX10_isPaused : ByteArray := prog_12_method_33_code
def yX10_isPaused : MethodName := ⟨RX10, "isPaused", "(II)Z"⟩
abbrev cX10_isOut : ByteArray := prog_12_method_34_code
def yX10_isOut : MethodName := ⟨RX10, "isOut", "(II)Z"⟩
abbrev cX10_weightOn : ByteArray := prog_12_method_35_code
def yX10_weightOn : MethodName := ⟨RX10, "weightOn", "(II)I"⟩
abbrev cX10_loads : ByteArray := prog_12_method_36_code
def yX10_loads : MethodName := ⟨RX10, "loads", "(II)V"⟩
abbrev cX10_endsTrip : ByteArray := prog_12_method_37_code
def yX10_endsTrip : MethodName := ⟨RX10, "endsTrip", "(I)V"⟩
abbrev cX10_complains : ByteArray := prog_12_method_38_code
def yX10_complains : MethodName := ⟨RX10, "complains", "(I)V"⟩
abbrev cX10_become : ByteArray := prog_12_method_39_code
def yX10_become : MethodName := ⟨RX10, "become", "(II)V"⟩
abbrev cX10_delivers : ByteArray := prog_12_method_40_code
def yX10_delivers : MethodName := ⟨RX10, "delivers", "(III)Z"⟩
abbrev cX10_goes : ByteArray := prog_12_method_41_code
def yX10_goes : MethodName := ⟨RX10, "goes", "(IIZ)I"⟩
abbrev cX10_tips : ByteArray := prog_12_method_42_code
def yX10_tips : MethodName := ⟨RX10, "tips", "(I)V"⟩
abbrev cX10_dayGoes : ByteArray := prog_12_method_43_code
def yX10_dayGoes : MethodName := ⟨RX10, "dayGoes", "()I"⟩
abbrev cX10_daysGo : ByteArray := prog_12_method_44_code
def yX10_daysGo : MethodName := ⟨RX10, "daysGo", "(I)I"⟩
abbrev cX10_days : ByteArray := prog_12_method_45_code
def yX10_days : MethodName := ⟨RX10, "days", "(I)I"⟩
abbrev cX10_housesBeyond : ByteArray := prog_12_method_46_code
def yX10_housesBeyond : MethodName := ⟨RX10, "housesBeyond", "(I)I"⟩
abbrev cX10_cornerOf : ByteArray := prog_12_method_47_code
def yX10_cornerOf : MethodName := ⟨RX10, "cornerOf", "(II)I"⟩
abbrev cX10_houseOf : ByteArray := prog_12_method_48_code
def yX10_houseOf : MethodName := ⟨RX10, "houseOf", "(II)I"⟩
abbrev cX10_dueOf : ByteArray := prog_12_method_49_code
def yX10_dueOf : MethodName := ⟨RX10, "dueOf", "(I)I"⟩
abbrev cX10_shareOf : ByteArray := prog_12_method_50_code
def yX10_shareOf : MethodName := ⟨RX10, "shareOf", "(I)F"⟩
abbrev cX10_bitsOf : ByteArray := prog_12_method_51_code
def yX10_bitsOf : MethodName := ⟨RX10, "bitsOf", "(F)I"⟩
abbrev cX10_shareBits : ByteArray := prog_12_method_52_code
def yX10_shareBits : MethodName := ⟨RX10, "shareBits", "(I)I"⟩
abbrev cX10_meanBits : ByteArray := prog_12_method_53_code
def yX10_meanBits : MethodName := ⟨RX10, "meanBits", "()I"⟩
abbrev cX10_carrierOf : ByteArray := prog_12_method_54_code
def yX10_carrierOf : MethodName := ⟨RX10, "carrierOf", "(II)I"⟩
abbrev cX10_pauseOf : ByteArray := prog_12_method_55_code
def yX10_pauseOf : MethodName := ⟨RX10, "pauseOf", "(II)I"⟩
abbrev cX10_roundAt : ByteArray := prog_12_method_56_code
def yX10_roundAt : MethodName := ⟨RX10, "roundAt", "(II)I"⟩
abbrev cX10_round : ByteArray := prog_12_method_57_code
def yX10_round : MethodName := ⟨RX10, "round", "(III)I"⟩
abbrev cX10_moreBy : ByteArray := prog_12_method_58_code
def yX10_moreBy : MethodName := ⟨RX10, "moreBy", "(III)I"⟩
abbrev cX10_lightest : ByteArray := prog_12_method_59_code
def yX10_lightest : MethodName := ⟨RX10, "lightest", "(II)I"⟩
abbrev cX10_nextDog : ByteArray := prog_12_method_60_code
def yX10_nextDog : MethodName := ⟨RX10, "nextDog", "(I)I"⟩
abbrev cX10_overHouses : ByteArray := prog_12_method_61_code
def yX10_overHouses : MethodName := ⟨RX10, "overHouses", "(I)I"⟩
abbrev cX10_account : ByteArray := prog_12_method_62_code
def yX10_account : MethodName := ⟨RX10, "account", "(I)I"⟩
abbrev cX10_pausedNow : ByteArray := prog_12_method_63_code
def yX10_pausedNow : MethodName := ⟨RX10, "pausedNow", "()I"⟩
abbrev cX10_tipsAll : ByteArray := prog_12_method_64_code
def yX10_tipsAll : MethodName := ⟨RX10, "tipsAll", "()I"⟩
abbrev cX10_count : ByteArray := prog_12_method_65_code
def yX10_count : MethodName := ⟨RX10, "count", "(I)I"⟩
abbrev cX10_undo : ByteArray := prog_12_method_66_code
def yX10_undo : MethodName := ⟨RX10, "undo", "()I"⟩
abbrev cX10_type : ByteArray := prog_12_method_67_code
def yX10_type : MethodName := ⟨RX10, "type", "(I)I"⟩
abbrev cX10_clearText : ByteArray := prog_12_method_68_code
def yX10_clearText : MethodName := ⟨RX10, "clearText", "()I"⟩
abbrev cX10_signAt : ByteArray := prog_12_method_69_code
def yX10_signAt : MethodName := ⟨RX10, "signAt", "(I)I"⟩
abbrev cX10_readsNumber : ByteArray := prog_12_method_70_code
def yX10_readsNumber : MethodName := ⟨RX10, "readsNumber", "(I)Z"⟩
abbrev cX10_reads : ByteArray := prog_12_method_71_code
def yX10_reads : MethodName := ⟨RX10, "reads", "(I)Z"⟩
abbrev cX10_does : ByteArray := prog_12_method_72_code
def yX10_does : MethodName := ⟨RX10, "does", "()I"⟩
abbrev cX10_doesAll : ByteArray := prog_12_method_73_code
def yX10_doesAll : MethodName := ⟨RX10, "doesAll", "()I"⟩
abbrev cX10_looks : ByteArray := prog_12_method_74_code
def yX10_looks : MethodName := ⟨RX10, "looks", "()I"⟩
abbrev cX10_fault : ByteArray := prog_12_method_75_code
def yX10_fault : MethodName := ⟨RX10, "fault", "(I)I"⟩
abbrev cX10_play : ByteArray := prog_12_method_76_code
def yX10_play : MethodName := ⟨RX10, "play", "()I"⟩
def RJ10 : String := "java/lang/System"
def TJ10 : u_T := fun k => match k with
  | _ => ("", "", "", false)
def tyJ10 : Nat → FieldType := fun k => match k with
  | _ => .int
abbrev wsJ100 : List Cond := u_ws RJ10 TJ10 0
theorem nmJ10 : ∀ a, a < 0 → ∀ b, b < 0 → a ≠ b → (TJ10 a).2.1 ≠ (TJ10 b).2.1 := by decide +kernel
theorem tyJ10_ok : ∀ k, k < 0 → parseFieldDescriptor (TJ10 k).2.2.1 = some (tyJ10 k) := by decide +kernel
def RL : String := "PaperRoundsLaw"
abbrev cL_law : ByteArray := code
def yL_law : MethodName := ⟨RL, "law", "([I)Z"⟩
def wsL_law_r1 : List Cond := [Cond.classLink RL 7 RX9, Cond.instantiable RX9 5, Cond.initialized RX9, Cond.classLink RL 10 RX10, Cond.instantiable RX10 20, Cond.initialized RX10, Cond.methodLink RL 9 yX9_init, Cond.instanceMethod yX9_init, Cond.code yX9_init cX9_init 1 none, Cond.methodLink RX9 1 objectInit, Cond.instanceMethod objectInit, Cond.code objectInit ⟨#[0xb1]⟩ 1 none, Cond.classLink RX9 7 RX6, Cond.instantiable RX6 8, Cond.initialized RX6, Cond.fieldLink RX9 10 "PaperRounds" "town" "LPaperRounds$Town;", Cond.classLink RX9 16 RX1, Cond.instantiable RX1 3, Cond.initialized RX1, Cond.fieldLink RX9 19 "PaperRounds" "history" "LPaperRounds$History;", Cond.classLink RX9 23 RX8, Cond.instantiable RX8 6, Cond.initialized RX8, Cond.fieldLink RX9 26 "PaperRounds" "walk" "LPaperRounds$Walk;"]
def wsL_law_r2 : List Cond := [Cond.classLink RX9 30 RX5, Cond.instantiable RX5 5, Cond.initialized RX5, Cond.fieldLink RX9 33 "PaperRounds" "text" "LPaperRounds$Text;", Cond.classLink RX9 37 RX7, Cond.instantiable RX7 5, Cond.initialized RX7, Cond.fieldLink RX9 40 "PaperRounds" "trial" "LPaperRounds$Trial;", Cond.instanceMethod yX6_init, Cond.code yX6_init cX6_init 1 none, Cond.methodLink RX6 3 objectInit, Cond.fieldLink RX6 9 "PaperRounds$Town" "day" "I", Cond.fieldLink RX6 15 "PaperRounds$Town" "weight" "I", Cond.fieldLink RX6 18 "PaperRounds$Town" "sundayWeight" "I", Cond.arrayClass .int, Cond.fieldLink RX6 21 "PaperRounds$Town" "accounts" "[I", Cond.classLink RX6 25 RX4, Cond.instantiable RX4 9, Cond.initialized RX4, Cond.fieldLink RX6 28 "PaperRounds$Town" "streets" "LPaperRounds$Streets;", Cond.classLink RX6 32 RX2, Cond.instantiable RX2 15, Cond.initialized RX2, Cond.fieldLink RX6 35 "PaperRounds$Town" "houses" "LPaperRounds$Houses;"]
def wsL_law_r3 : List Cond := [Cond.classLink RX6 39 RX3, Cond.instantiable RX3 4, Cond.initialized RX3, Cond.fieldLink RX6 42 "PaperRounds$Town" "pauses" "LPaperRounds$Pauses;", Cond.classLink RX6 46 RX0, Cond.instantiable RX0 8, Cond.initialized RX0, Cond.fieldLink RX6 49 "PaperRounds$Town" "carriers" "LPaperRounds$Carriers;", Cond.methodLink RX6 27 yX4_init, Cond.instanceMethod yX4_init, Cond.code yX4_init cX4_init 1 none, Cond.methodLink RX4 3 objectInit, Cond.fieldLink RX4 9 "PaperRounds$Streets" "many" "I", Cond.fieldLink RX4 15 "PaperRounds$Streets" "ahead" "[I", Cond.fieldLink RX4 19 "PaperRounds$Streets" "length" "[I", Cond.fieldLink RX4 22 "PaperRounds$Streets" "height" "[I", Cond.fieldLink RX4 25 "PaperRounds$Streets" "stairs" "[I", Cond.fieldLink RX4 28 "PaperRounds$Streets" "depth" "[I", Cond.fieldLink RX4 31 "PaperRounds$Streets" "distance" "[I", Cond.fieldLink RX4 34 "PaperRounds$Streets" "cartsCome" "[I", Cond.fieldLink RX4 37 "PaperRounds$Streets" "order" "[I", Cond.instanceMethod yX2_init, Cond.code yX2_init cX2_init 1 none, Cond.methodLink RX2 3 objectInit]
def wsL_law_r4 : List Cond := [Cond.fieldLink RX2 9 "PaperRounds$Houses" "many" "I", Cond.fieldLink RX2 15 "PaperRounds$Houses" "corner" "[I", Cond.fieldLink RX2 19 "PaperRounds$Houses" "papers" "[I", Cond.fieldLink RX2 22 "PaperRounds$Houses" "tip" "[I", Cond.fieldLink RX2 25 "PaperRounds$Houses" "carrier" "[I", Cond.fieldLink RX2 28 "PaperRounds$Houses" "period" "[I", Cond.fieldLink RX2 31 "PaperRounds$Houses" "phase" "[I", Cond.fieldLink RX2 34 "PaperRounds$Houses" "delivered" "[I", Cond.fieldLink RX2 37 "PaperRounds$Houses" "paused" "[I", Cond.fieldLink RX2 40 "PaperRounds$Houses" "returned" "[I", Cond.fieldLink RX2 43 "PaperRounds$Houses" "lost" "[I", Cond.fieldLink RX2 46 "PaperRounds$Houses" "complaints" "[I", Cond.fieldLink RX2 49 "PaperRounds$Houses" "freshComplaints" "[I", Cond.fieldLink RX2 52 "PaperRounds$Houses" "freshDelivered" "[I", Cond.fieldLink RX2 55 "PaperRounds$Houses" "order" "[I", Cond.instanceMethod yX3_init, Cond.code yX3_init cX3_init 1 none, Cond.methodLink RX3 3 objectInit, Cond.fieldLink RX3 9 "PaperRounds$Pauses" "many" "I", Cond.fieldLink RX3 15 "PaperRounds$Pauses" "house" "[I", Cond.fieldLink RX3 19 "PaperRounds$Pauses" "first" "[I", Cond.fieldLink RX3 22 "PaperRounds$Pauses" "last" "[I", Cond.instanceMethod yX0_init, Cond.code yX0_init cX0_init 1 none]
def wsL_law_r5 : List Cond := [Cond.methodLink RX0 3 objectInit, Cond.fieldLink RX0 9 "PaperRounds$Carriers" "many" "I", Cond.fieldLink RX0 15 "PaperRounds$Carriers" "cart" "[I", Cond.fieldLink RX0 19 "PaperRounds$Carriers" "limit" "[I", Cond.fieldLink RX0 22 "PaperRounds$Carriers" "biscuits" "[I", Cond.fieldLink RX0 25 "PaperRounds$Carriers" "trips" "[I", Cond.fieldLink RX0 28 "PaperRounds$Carriers" "effort" "[I", Cond.fieldLink RX0 31 "PaperRounds$Carriers" "tips" "[I", Cond.fieldLink RX0 34 "PaperRounds$Carriers" "delivered" "[I", Cond.methodLink RX9 18 yX1_init, Cond.instanceMethod yX1_init, Cond.code yX1_init cX1_init 2 none, Cond.methodLink RX1 3 objectInit, Cond.fieldLink RX1 9 "PaperRounds$History" "kept" "I", Cond.fieldLink RX1 15 "PaperRounds$History" "oldest" "I", Cond.classLink RX1 18 RX6, Cond.fieldLink RX1 20 "PaperRounds$History" "rows" "[LPaperRounds$Town;", Cond.instanceMethod yX8_init, Cond.code yX8_init cX8_init 1 none, Cond.methodLink RX8 3 objectInit, Cond.fieldLink RX8 9 "PaperRounds$Walk" "trips" "I", Cond.fieldLink RX8 15 "PaperRounds$Walk" "effort" "I", Cond.fieldLink RX8 18 "PaperRounds$Walk" "papers" "I", Cond.fieldLink RX8 21 "PaperRounds$Walk" "dogs" "I"]
def wsL_law_r6 : List Cond := [Cond.fieldLink RX8 24 "PaperRounds$Walk" "onTrip" "I", Cond.fieldLink RX8 27 "PaperRounds$Walk" "load" "[I", Cond.instanceMethod yX5_init, Cond.code yX5_init cX5_init 1 none, Cond.methodLink RX5 3 objectInit, Cond.fieldLink RX5 9 "PaperRounds$Text" "length" "I", Cond.arrayClass .char, Cond.fieldLink RX5 15 "PaperRounds$Text" "signs" "[C", Cond.fieldLink RX5 19 "PaperRounds$Text" "kind" "C", Cond.fieldLink RX5 23 "PaperRounds$Text" "next" "I", Cond.fieldLink RX5 26 "PaperRounds$Text" "numbers" "[I", Cond.instanceMethod yX7_init, Cond.code yX7_init cX7_init 1 none, Cond.methodLink RX7 3 objectInit, Cond.classLink RX7 9 RX6, Cond.fieldLink RX7 12 "PaperRounds$Trial" "town" "LPaperRounds$Town;", Cond.fieldLink RX7 18 "PaperRounds$Trial" "orders" "I", Cond.fieldLink RX7 22 "PaperRounds$Trial" "position" "I", Cond.fieldLink RX7 25 "PaperRounds$Trial" "reason" "I", Cond.fieldLink RX7 28 "PaperRounds$Trial" "cause" "I", Cond.methodLink RL 12 yX10_init, Cond.instanceMethod yX10_init, Cond.code yX10_init cX10_init 1 none, Cond.methodLink RX10 1 objectInit]
def wsL_law_r7 : List Cond := [Cond.fieldLink RX10 7 "PaperRoundsModel" "now" "[I", Cond.fieldLink RX10 13 "PaperRoundsModel" "past" "[I", Cond.fieldLink RX10 16 "PaperRoundsModel" "before" "[I", Cond.fieldLink RX10 19 "PaperRoundsModel" "tried" "[I", Cond.fieldLink RX10 22 "PaperRoundsModel" "text" "[I", Cond.fieldLink RX10 25 "PaperRoundsModel" "corners" "[I", Cond.fieldLink RX10 28 "PaperRoundsModel" "row" "[I", Cond.fieldLink RX10 31 "PaperRoundsModel" "weights" "[I", Cond.fieldLink RX10 34 "PaperRoundsModel" "numbers" "[I", Cond.methodLink RL 13 yX9_corner, Cond.instanceMethod yX9_corner, Cond.selects RX9 yX9_corner yX9_corner, Cond.code yX9_corner cX9_corner 5 (some .int), Cond.methodLink RX9 44 yX1_prepare, Cond.instanceMethod yX1_prepare, Cond.selects RX1 yX1_prepare yX1_prepare, Cond.code yX1_prepare cX1_prepare 2 none, Cond.methodLink RX1 25 yX6_copyFrom, Cond.instanceMethod yX6_copyFrom, Cond.selects RX6 yX6_copyFrom yX6_copyFrom, Cond.code yX6_copyFrom cX6_copyFrom 2 none, Cond.static yX9_copy, Cond.code yX9_copy cX9_copy 3 none, Cond.methodLink RX9 313 arraycopyName]
def wsL_law_r8 : List Cond := [Cond.native arraycopyName, Cond.static arraycopyName, Cond.initialized "java/lang/System", Cond.methodLink RX6 57 yX4_copyFrom, Cond.instanceMethod yX4_copyFrom, Cond.selects RX4 yX4_copyFrom yX4_copyFrom, Cond.code yX4_copyFrom cX4_copyFrom 2 none, Cond.methodLink RX6 61 yX2_copyFrom, Cond.instanceMethod yX2_copyFrom, Cond.selects RX2 yX2_copyFrom yX2_copyFrom, Cond.code yX2_copyFrom cX2_copyFrom 2 none, Cond.methodLink RX6 64 yX3_copyFrom, Cond.instanceMethod yX3_copyFrom, Cond.selects RX3 yX3_copyFrom yX3_copyFrom, Cond.code yX3_copyFrom cX3_copyFrom 2 none, Cond.methodLink RX6 67 yX0_copyFrom, Cond.instanceMethod yX0_copyFrom, Cond.selects RX0 yX0_copyFrom yX0_copyFrom, Cond.code yX0_copyFrom cX0_copyFrom 2 none, Cond.methodLink RX9 48 yX6_addCorner, Cond.instanceMethod yX6_addCorner, Cond.selects RX6 yX6_addCorner yX6_addCorner, Cond.code yX6_addCorner cX6_addCorner 5 (some .int), Cond.fieldLink RX6 78 "PaperRounds$Streets" "many" "I"]
def wsL_law_r9 : List Cond := [Cond.methodLink RX6 70 yX4_has, Cond.instanceMethod yX4_has, Cond.selects RX4 yX4_has yX4_has, Cond.code yX4_has cX4_has 2 (some .boolean), Cond.static yX9_within, Cond.code yX9_within cX9_within 3 (some .boolean), Cond.methodLink RX6 81 yX4_add, Cond.instanceMethod yX4_add, Cond.selects RX4 yX4_add yX4_add, Cond.code yX4_add cX4_add 6 (some .int), Cond.methodLink RX4 48 yX4_putInOrder, Cond.instanceMethod yX4_putInOrder, Cond.selects RX4 yX4_putInOrder yX4_putInOrder, Cond.code yX4_putInOrder cX4_putInOrder 5 none, Cond.methodLink RX9 52 yX9_settled, Cond.instanceMethod yX9_settled, Cond.selects RX9 yX9_settled yX9_settled, Cond.code yX9_settled cX9_settled 2 (some .int), Cond.methodLink RX9 308 yX1_keepPrepared, Cond.instanceMethod yX1_keepPrepared, Cond.selects RX1 yX1_keepPrepared yX1_keepPrepared, Cond.code yX1_keepPrepared cX1_keepPrepared 1 none, Cond.methodLink RL 17 yX10_corner, Cond.instanceMethod yX10_corner]
def wsL_law_r10 : List Cond := [Cond.selects RX10 yX10_corner yX10_corner, Cond.code yX10_corner cX10_corner 6 (some .int), Cond.methodLink RX10 60 yX10_isCorner, Cond.instanceMethod yX10_isCorner, Cond.selects RX10 yX10_isCorner yX10_isCorner, Cond.code yX10_isCorner cX10_isCorner 2 (some .boolean), Cond.methodLink RX10 45 yX10_in, Cond.static yX10_in, Cond.code yX10_in cX10_in 3 (some .boolean), Cond.methodLink RX10 64 yX10_notes, Cond.instanceMethod yX10_notes, Cond.selects RX10 yX10_notes yX10_notes, Cond.code yX10_notes cX10_notes 1 none, Cond.methodLink RX10 37 yX10_copies, Cond.static yX10_copies, Cond.code yX10_copies cX10_copies 5 none, Cond.methodLink RX10 67 yX10_ends, Cond.instanceMethod yX10_ends, Cond.selects RX10 yX10_ends yX10_ends, Cond.code yX10_ends cX10_ends 3 (some .int), Cond.fieldLink RX10 41 "PaperRoundsModel" "pasts" "I", Cond.methodLink RL 18 yX9_house, Cond.instanceMethod yX9_house, Cond.selects RX9 yX9_house yX9_house]
def wsL_law_r11 : List Cond := [Cond.code yX9_house cX9_house 4 (some .int), Cond.methodLink RX9 56 yX6_addHouse, Cond.instanceMethod yX6_addHouse, Cond.selects RX6 yX6_addHouse yX6_addHouse, Cond.code yX6_addHouse cX6_addHouse 4 (some .int), Cond.fieldLink RX6 85 "PaperRounds$Houses" "many" "I", Cond.methodLink RX6 86 yX2_add, Cond.instanceMethod yX2_add, Cond.selects RX2 yX2_add yX2_add, Cond.code yX2_add cX2_add 6 (some .int), Cond.methodLink RX2 66 yX2_makeOrder, Cond.instanceMethod yX2_makeOrder, Cond.selects RX2 yX2_makeOrder yX2_makeOrder, Cond.code yX2_makeOrder cX2_makeOrder 5 none, Cond.fieldLink RX2 70 "PaperRounds$Streets" "many" "I", Cond.fieldLink RX2 73 "PaperRounds$Streets" "order" "[I", Cond.methodLink RL 22 yX10_house, Cond.instanceMethod yX10_house, Cond.selects RX10 yX10_house yX10_house, Cond.code yX10_house cX10_house 5 (some .int), Cond.methodLink RX10 71 yX10_lays, Cond.instanceMethod yX10_lays, Cond.selects RX10 yX10_lays yX10_lays, Cond.code yX10_lays cX10_lays 4 none]
def wsL_law_r12 : List Cond := [Cond.methodLink RL 23 yX9_dog, Cond.instanceMethod yX9_dog, Cond.selects RX9 yX9_dog yX9_dog, Cond.code yX9_dog cX9_dog 4 (some .int), Cond.methodLink RX9 60 yX6_changeDog, Cond.instanceMethod yX6_changeDog, Cond.selects RX6 yX6_changeDog yX6_changeDog, Cond.code yX6_changeDog cX6_changeDog 6 (some .int), Cond.fieldLink RX6 90 "PaperRounds$Houses" "period" "[I", Cond.fieldLink RX6 93 "PaperRounds$Houses" "phase" "[I", Cond.methodLink RX6 89 yX2_has, Cond.instanceMethod yX2_has, Cond.selects RX2 yX2_has yX2_has, Cond.code yX2_has cX2_has 2 (some .boolean), Cond.methodLink RL 26 yX10_dog, Cond.instanceMethod yX10_dog, Cond.selects RX10 yX10_dog yX10_dog, Cond.code yX10_dog cX10_dog 5 (some .int), Cond.methodLink RX10 75 yX10_isHouse, Cond.instanceMethod yX10_isHouse, Cond.selects RX10 yX10_isHouse yX10_isHouse, Cond.code yX10_isHouse cX10_isHouse 2 (some .boolean), Cond.methodLink RX10 57 yX10_of, Cond.instanceMethod yX10_of]
def wsL_law_r13 : List Cond := [Cond.selects RX10 yX10_of yX10_of, Cond.code yX10_of cX10_of 3 (some .int), Cond.methodLink RL 27 yX9_pause, Cond.instanceMethod yX9_pause, Cond.selects RX9 yX9_pause yX9_pause, Cond.code yX9_pause cX9_pause 4 (some .int), Cond.methodLink RX9 63 yX6_addPause, Cond.instanceMethod yX6_addPause, Cond.selects RX6 yX6_addPause yX6_addPause, Cond.code yX6_addPause cX6_addPause 4 (some .int), Cond.fieldLink RX6 96 "PaperRounds$Pauses" "many" "I", Cond.methodLink RX6 97 yX3_add, Cond.instanceMethod yX3_add, Cond.selects RX3 yX3_add yX3_add, Cond.code yX3_add cX3_add 5 (some .int), Cond.methodLink RL 30 yX10_pause, Cond.instanceMethod yX10_pause, Cond.selects RX10 yX10_pause yX10_pause, Cond.code yX10_pause cX10_pause 4 (some .int), Cond.methodLink RX10 78 yX10_pauses, Cond.instanceMethod yX10_pauses, Cond.selects RX10 yX10_pauses yX10_pauses, Cond.code yX10_pauses cX10_pauses 5 (some .int), Cond.methodLink RL 31 yX9_carrier]
def wsL_law_r14 : List Cond := [Cond.instanceMethod yX9_carrier, Cond.selects RX9 yX9_carrier yX9_carrier, Cond.code yX9_carrier cX9_carrier 3 (some .int), Cond.methodLink RX9 66 yX6_addCarrier, Cond.instanceMethod yX6_addCarrier, Cond.selects RX6 yX6_addCarrier yX6_addCarrier, Cond.code yX6_addCarrier cX6_addCarrier 3 (some .int), Cond.fieldLink RX6 100 "PaperRounds$Carriers" "many" "I", Cond.methodLink RX6 101 yX0_add, Cond.instanceMethod yX0_add, Cond.selects RX0 yX0_add yX0_add, Cond.code yX0_add cX0_add 4 (some .int), Cond.methodLink RL 35 yX10_carrier, Cond.instanceMethod yX10_carrier, Cond.selects RX10 yX10_carrier yX10_carrier, Cond.code yX10_carrier cX10_carrier 3 (some .int), Cond.methodLink RX10 82 yX10_addsCarrier, Cond.instanceMethod yX10_addsCarrier, Cond.selects RX10 yX10_addsCarrier yX10_addsCarrier, Cond.code yX10_addsCarrier cX10_addsCarrier 4 none, Cond.methodLink RL 36 yX9_give, Cond.instanceMethod yX9_give, Cond.selects RX9 yX9_give yX9_give, Cond.code yX9_give cX9_give 3 (some .int)]
def wsL_law_r15 : List Cond := [Cond.methodLink RX9 70 yX6_handOver, Cond.instanceMethod yX6_handOver, Cond.selects RX6 yX6_handOver yX6_handOver, Cond.code yX6_handOver cX6_handOver 3 (some .int), Cond.fieldLink RX6 105 "PaperRounds$Houses" "carrier" "[I", Cond.methodLink RX6 104 yX0_has, Cond.instanceMethod yX0_has, Cond.selects RX0 yX0_has yX0_has, Cond.code yX0_has cX0_has 2 (some .boolean), Cond.methodLink RX6 108 yX6_canReach, Cond.instanceMethod yX6_canReach, Cond.selects RX6 yX6_canReach yX6_canReach, Cond.code yX6_canReach cX6_canReach 3 (some .boolean), Cond.fieldLink RX6 198 "PaperRounds$Carriers" "cart" "[I", Cond.fieldLink RX6 201 "PaperRounds$Streets" "cartsCome" "[I", Cond.fieldLink RX6 204 "PaperRounds$Houses" "corner" "[I", Cond.methodLink RX6 112 yX2_manyOf, Cond.instanceMethod yX2_manyOf, Cond.selects RX2 yX2_manyOf yX2_manyOf, Cond.code yX2_manyOf cX2_manyOf 4 (some .int), Cond.methodLink RL 39 yX10_give, Cond.instanceMethod yX10_give, Cond.selects RX10 yX10_give yX10_give, Cond.code yX10_give cX10_give 3 (some .int)]
def wsL_law_r16 : List Cond := [Cond.methodLink RX10 100 yX10_gives, Cond.instanceMethod yX10_gives, Cond.selects RX10 yX10_gives yX10_gives, Cond.code yX10_gives cX10_gives 3 (some .int), Cond.methodLink RX10 91 yX10_isCarrier, Cond.instanceMethod yX10_isCarrier, Cond.selects RX10 yX10_isCarrier yX10_isCarrier, Cond.code yX10_isCarrier cX10_isCarrier 2 (some .boolean), Cond.methodLink RX10 94 yX10_canReach, Cond.instanceMethod yX10_canReach, Cond.selects RX10 yX10_canReach yX10_canReach, Cond.code yX10_canReach cX10_canReach 3 (some .boolean), Cond.methodLink RX10 85 yX10_ofCarrier, Cond.instanceMethod yX10_ofCarrier, Cond.selects RX10 yX10_ofCarrier yX10_ofCarrier, Cond.code yX10_ofCarrier cX10_ofCarrier 3 (some .int), Cond.methodLink RX10 88 yX10_cartsCome, Cond.instanceMethod yX10_cartsCome, Cond.selects RX10 yX10_cartsCome yX10_cartsCome, Cond.code yX10_cartsCome cX10_cartsCome 4 (some .boolean), Cond.methodLink RX10 49 yX10_ofCorner, Cond.instanceMethod yX10_ofCorner, Cond.selects RX10 yX10_ofCorner yX10_ofCorner, Cond.code yX10_ofCorner cX10_ofCorner 3 (some .int)]
def wsL_law_r17 : List Cond := [Cond.methodLink RX10 97 yX10_housesOf, Cond.instanceMethod yX10_housesOf, Cond.selects RX10 yX10_housesOf yX10_housesOf, Cond.code yX10_housesOf cX10_housesOf 4 (some .int), Cond.methodLink RL 40 yX9_giveNone, Cond.instanceMethod yX9_giveNone, Cond.selects RX9 yX9_giveNone yX9_giveNone, Cond.code yX9_giveNone cX9_giveNone 2 (some .int), Cond.methodLink RX9 73 yX6_takeBack, Cond.instanceMethod yX6_takeBack, Cond.selects RX6 yX6_takeBack yX6_takeBack, Cond.code yX6_takeBack cX6_takeBack 3 (some .int), Cond.methodLink RL 44 yX10_giveNone, Cond.instanceMethod yX10_giveNone, Cond.selects RX10 yX10_giveNone yX10_giveNone, Cond.code yX10_giveNone cX10_giveNone 2 (some .int), Cond.methodLink RX10 103 yX10_givesNone, Cond.instanceMethod yX10_givesNone, Cond.selects RX10 yX10_givesNone yX10_givesNone, Cond.code yX10_givesNone cX10_givesNone 3 (some .int), Cond.methodLink RL 45 yX9_biscuits, Cond.instanceMethod yX9_biscuits, Cond.selects RX9 yX9_biscuits yX9_biscuits, Cond.code yX9_biscuits cX9_biscuits 3 (some .int)]
def wsL_law_r18 : List Cond := [Cond.methodLink RX9 76 yX6_addBiscuits, Cond.instanceMethod yX6_addBiscuits, Cond.selects RX6 yX6_addBiscuits yX6_addBiscuits, Cond.code yX6_addBiscuits cX6_addBiscuits 3 (some .int), Cond.fieldLink RX6 116 "PaperRounds$Carriers" "biscuits" "[I", Cond.methodLink RL 48 yX10_biscuits, Cond.instanceMethod yX10_biscuits, Cond.selects RX10 yX10_biscuits yX10_biscuits, Cond.code yX10_biscuits cX10_biscuits 3 (some .int), Cond.methodLink RX10 106 yX10_addsBiscuits, Cond.instanceMethod yX10_addsBiscuits, Cond.selects RX10 yX10_addsBiscuits yX10_addsBiscuits, Cond.code yX10_addsBiscuits cX10_addsBiscuits 3 (some .int), Cond.methodLink RL 49 yX9_set, Cond.instanceMethod yX9_set, Cond.selects RX9 yX9_set yX9_set, Cond.code yX9_set cX9_set 3 (some .int), Cond.methodLink RX9 79 yX6_changeSetting, Cond.instanceMethod yX6_changeSetting, Cond.selects RX6 yX6_changeSetting yX6_changeSetting, Cond.code yX6_changeSetting cX6_changeSetting 4 (some .int), Cond.methodLink RL 52 yX10_set, Cond.instanceMethod yX10_set, Cond.selects RX10 yX10_set yX10_set]
def wsL_law_r19 : List Cond := [Cond.code yX10_set cX10_set 4 (some .int), Cond.methodLink RL 53 yX9_days, Cond.instanceMethod yX9_days, Cond.selects RX9 yX9_days yX9_days, Cond.code yX9_days cX9_days 2 (some .int), Cond.methodLink RX9 82 yX6_letDaysGo, Cond.instanceMethod yX6_letDaysGo, Cond.selects RX6 yX6_letDaysGo yX6_letDaysGo, Cond.code yX6_letDaysGo cX6_letDaysGo 6 (some .int), Cond.fieldLink RX6 125 "PaperRounds$Carriers" "trips" "[I", Cond.fieldLink RX6 128 "PaperRounds$Walk" "trips" "I", Cond.fieldLink RX6 130 "PaperRounds$Carriers" "effort" "[I", Cond.fieldLink RX6 133 "PaperRounds$Walk" "effort" "I", Cond.methodLink RX6 119 yX8_go, Cond.instanceMethod yX8_go, Cond.selects RX8 yX8_go yX8_go, Cond.code yX8_go cX8_go 12 none, Cond.fieldLink RX8 34 "PaperRounds$Town" "houses" "LPaperRounds$Houses;", Cond.fieldLink RX8 44 "PaperRounds$Town" "carriers" "LPaperRounds$Carriers;", Cond.fieldLink RX8 48 "PaperRounds$Carriers" "limit" "[I", Cond.fieldLink RX8 53 "PaperRounds$Houses" "many" "I", Cond.fieldLink RX8 58 "PaperRounds$Houses" "order" "[I", Cond.fieldLink RX8 61 "PaperRounds$Houses" "papers" "[I", Cond.fieldLink RX8 63 "PaperRounds$Houses" "carrier" "[I"]
def wsL_law_r20 : List Cond := [Cond.fieldLink RX8 66 "PaperRounds$Town" "pauses" "LPaperRounds$Pauses;", Cond.fieldLink RX8 76 "PaperRounds$Town" "streets" "LPaperRounds$Streets;", Cond.fieldLink RX8 80 "PaperRounds$Carriers" "cart" "[I", Cond.fieldLink RX8 87 "PaperRounds$Houses" "corner" "[I", Cond.methodLink RX8 31 yX8_clear, Cond.instanceMethod yX8_clear, Cond.selects RX8 yX8_clear yX8_clear, Cond.code yX8_clear cX8_clear 1 none, Cond.methodLink RX8 40 yX6_weightOn, Cond.instanceMethod yX6_weightOn, Cond.selects RX6 yX6_weightOn yX6_weightOn, Cond.code yX6_weightOn cX6_weightOn 2 (some .int), Cond.methodLink RX6 138 yX6_isSunday, Cond.static yX6_isSunday, Cond.code yX6_isSunday cX6_isSunday 1 (some .boolean), Cond.methodLink RX8 70 yX3_cover, Cond.instanceMethod yX3_cover, Cond.selects RX3 yX3_cover yX3_cover, Cond.code yX3_cover cX3_cover 4 (some .boolean), Cond.methodLink RX8 83 yX8_endTrip, Cond.instanceMethod yX8_endTrip, Cond.selects RX8 yX8_endTrip yX8_endTrip, Cond.code yX8_endTrip cX8_endTrip 4 none, Cond.fieldLink RX8 93 "PaperRounds$Streets" "many" "I"]
def wsL_law_r21 : List Cond := [Cond.fieldLink RX8 100 "PaperRounds$Streets" "ahead" "[I", Cond.methodLink RX8 96 yX4_effortOfStreet, Cond.instanceMethod yX4_effortOfStreet, Cond.selects RX4 yX4_effortOfStreet yX4_effortOfStreet, Cond.code yX4_effortOfStreet cX4_effortOfStreet 7 (some .int), Cond.methodLink RX8 90 yX2_dogIsOut, Cond.instanceMethod yX2_dogIsOut, Cond.selects RX2 yX2_dogIsOut yX2_dogIsOut, Cond.code yX2_dogIsOut cX2_dogIsOut 4 (some .boolean), Cond.methodLink RX6 135 yX6_bringPapers, Cond.instanceMethod yX6_bringPapers, Cond.selects RX6 yX6_bringPapers yX6_bringPapers, Cond.code yX6_bringPapers cX6_bringPapers 5 none, Cond.fieldLink RX6 147 "PaperRounds$Houses" "order" "[I", Cond.fieldLink RX6 150 "PaperRounds$Houses" "papers" "[I", Cond.methodLink RX6 153 yX6_fateOfPapers, Cond.instanceMethod yX6_fateOfPapers, Cond.selects RX6 yX6_fateOfPapers yX6_fateOfPapers, Cond.code yX6_fateOfPapers cX6_fateOfPapers 3 (some .int), Cond.fieldLink RX6 166 "PaperRounds$Carriers" "limit" "[I", Cond.methodLink RX6 160 yX3_cover, Cond.methodLink RX6 163 yX6_weightOn, Cond.methodLink RX6 169 yX2_dogIsOut, Cond.methodLink RX6 156 yX6_book]
def wsL_law_r22 : List Cond := [Cond.instanceMethod yX6_book, Cond.selects RX6 yX6_book yX6_book, Cond.code yX6_book cX6_book 4 none, Cond.fieldLink RX6 172 "PaperRounds$Houses" "paused" "[I", Cond.fieldLink RX6 175 "PaperRounds$Houses" "delivered" "[I", Cond.fieldLink RX6 178 "PaperRounds$Houses" "freshDelivered" "[I", Cond.fieldLink RX6 181 "PaperRounds$Carriers" "delivered" "[I", Cond.fieldLink RX6 182 "PaperRounds$Houses" "lost" "[I", Cond.fieldLink RX6 189 "PaperRounds$Houses" "returned" "[I", Cond.methodLink RX6 185 yX2_complain, Cond.instanceMethod yX2_complain, Cond.selects RX2 yX2_complain yX2_complain, Cond.code yX2_complain cX2_complain 2 none, Cond.methodLink RX6 141 yX6_payTips, Cond.instanceMethod yX6_payTips, Cond.selects RX6 yX6_payTips yX6_payTips, Cond.code yX6_payTips cX6_payTips 3 none, Cond.fieldLink RX6 192 "PaperRounds$Carriers" "tips" "[I", Cond.methodLink RX6 195 yX2_tipNow, Cond.instanceMethod yX2_tipNow, Cond.selects RX2 yX2_tipNow yX2_tipNow, Cond.code yX2_tipNow cX2_tipNow 2 (some .int), Cond.methodLink RX6 144 yX2_beginWeek, Cond.instanceMethod yX2_beginWeek]
def wsL_law_r23 : List Cond := [Cond.selects RX2 yX2_beginWeek yX2_beginWeek, Cond.code yX2_beginWeek cX2_beginWeek 2 none, Cond.methodLink RL 56 yX10_days, Cond.instanceMethod yX10_days, Cond.selects RX10 yX10_days yX10_days, Cond.code yX10_days cX10_days 2 (some .int), Cond.methodLink RX10 161 yX10_daysGo, Cond.instanceMethod yX10_daysGo, Cond.selects RX10 yX10_daysGo yX10_daysGo, Cond.code yX10_daysGo cX10_daysGo 4 (some .int), Cond.methodLink RX10 157 yX10_dayGoes, Cond.instanceMethod yX10_dayGoes, Cond.selects RX10 yX10_dayGoes yX10_dayGoes, Cond.code yX10_dayGoes cX10_dayGoes 4 (some .int), Cond.fieldLink RX10 123 "PaperRoundsModel" "trips" "I", Cond.fieldLink RX10 109 "PaperRoundsModel" "efforts" "I", Cond.methodLink RX10 138 yX10_isPaused, Cond.instanceMethod yX10_isPaused, Cond.selects RX10 yX10_isPaused yX10_isPaused, Cond.code yX10_isPaused cX10_isPaused 6 (some .boolean), Cond.methodLink RX10 115 yX10_become, Cond.instanceMethod yX10_become, Cond.selects RX10 yX10_become yX10_become, Cond.code yX10_become cX10_become 3 none]
def wsL_law_r24 : List Cond := [Cond.methodLink RX10 119 yX10_complains, Cond.instanceMethod yX10_complains, Cond.selects RX10 yX10_complains yX10_complains, Cond.code yX10_complains cX10_complains 2 none, Cond.methodLink RX10 150 yX10_goes, Cond.instanceMethod yX10_goes, Cond.selects RX10 yX10_goes yX10_goes, Cond.code yX10_goes cX10_goes 12 (some .int), Cond.fieldLink RX10 126 "PaperRoundsModel" "loaded" "I", Cond.fieldLink RX10 129 "PaperRoundsModel" "dogs" "I", Cond.methodLink RX10 132 yX10_laysRow, Cond.instanceMethod yX10_laysRow, Cond.selects RX10 yX10_laysRow yX10_laysRow, Cond.code yX10_laysRow cX10_laysRow 4 none, Cond.methodLink RX10 53 yX10_isBeyond, Cond.instanceMethod yX10_isBeyond, Cond.selects RX10 yX10_isBeyond yX10_isBeyond, Cond.code yX10_isBeyond cX10_isBeyond 4 (some .boolean), Cond.methodLink RX10 135 yX10_weightOn, Cond.instanceMethod yX10_weightOn, Cond.selects RX10 yX10_weightOn yX10_weightOn, Cond.code yX10_weightOn cX10_weightOn 3 (some .int), Cond.methodLink RX10 141 yX10_endsTrip, Cond.instanceMethod yX10_endsTrip]
def wsL_law_r25 : List Cond := [Cond.selects RX10 yX10_endsTrip yX10_endsTrip, Cond.code yX10_endsTrip cX10_endsTrip 5 none, Cond.methodLink RX10 144 yX10_loads, Cond.instanceMethod yX10_loads, Cond.selects RX10 yX10_loads yX10_loads, Cond.code yX10_loads cX10_loads 4 none, Cond.methodLink RX10 112 yX10_isOut, Cond.instanceMethod yX10_isOut, Cond.selects RX10 yX10_isOut yX10_isOut, Cond.code yX10_isOut cX10_isOut 4 (some .boolean), Cond.methodLink RX10 147 yX10_delivers, Cond.instanceMethod yX10_delivers, Cond.selects RX10 yX10_delivers yX10_delivers, Cond.code yX10_delivers cX10_delivers 5 (some .boolean), Cond.methodLink RX10 154 yX10_tips, Cond.instanceMethod yX10_tips, Cond.selects RX10 yX10_tips yX10_tips, Cond.code yX10_tips cX10_tips 5 none, Cond.methodLink RL 57 yX9_cornerOf, Cond.instanceMethod yX9_cornerOf, Cond.selects RX9 yX9_cornerOf yX9_cornerOf, Cond.code yX9_cornerOf cX9_cornerOf 4 (some .int), Cond.fieldLink RX9 86 "PaperRounds$Town" "streets" "LPaperRounds$Streets;", Cond.fieldLink RX9 100 "PaperRounds$Streets" "ahead" "[I"]
def wsL_law_r26 : List Cond := [Cond.fieldLink RX9 104 "PaperRounds$Streets" "length" "[I", Cond.fieldLink RX9 107 "PaperRounds$Streets" "height" "[I", Cond.fieldLink RX9 110 "PaperRounds$Streets" "stairs" "[I", Cond.fieldLink RX9 113 "PaperRounds$Streets" "distance" "[I", Cond.fieldLink RX9 119 "PaperRounds$Streets" "cartsCome" "[I", Cond.methodLink RX9 90 yX4_has, Cond.methodLink RX9 96 yX9_within, Cond.methodLink RX9 116 yX6_housesFrom, Cond.instanceMethod yX6_housesFrom, Cond.selects RX6 yX6_housesFrom yX6_housesFrom, Cond.code yX6_housesFrom cX6_housesFrom 4 (some .int), Cond.methodLink RX6 207 yX4_isAtOrBeyond, Cond.instanceMethod yX4_isAtOrBeyond, Cond.selects RX4 yX4_isAtOrBeyond yX4_isAtOrBeyond, Cond.code yX4_isAtOrBeyond cX4_isAtOrBeyond 5 (some .boolean), Cond.methodLink RL 60 yX10_cornerOf, Cond.instanceMethod yX10_cornerOf, Cond.selects RX10 yX10_cornerOf yX10_cornerOf, Cond.code yX10_cornerOf cX10_cornerOf 3 (some .int), Cond.methodLink RX10 164 yX10_farOf, Cond.instanceMethod yX10_farOf, Cond.selects RX10 yX10_farOf yX10_farOf, Cond.code yX10_farOf cX10_farOf 4 (some .int), Cond.methodLink RX10 167 yX10_housesBeyond]
def wsL_law_r27 : List Cond := [Cond.instanceMethod yX10_housesBeyond, Cond.selects RX10 yX10_housesBeyond yX10_housesBeyond, Cond.code yX10_housesBeyond cX10_housesBeyond 4 (some .int), Cond.methodLink RL 61 yX9_houseOf, Cond.instanceMethod yX9_houseOf, Cond.selects RX9 yX9_houseOf yX9_houseOf, Cond.code yX9_houseOf cX9_houseOf 4 (some .int), Cond.fieldLink RX9 122 "PaperRounds$Town" "houses" "LPaperRounds$Houses;", Cond.fieldLink RX9 129 "PaperRounds$Houses" "corner" "[I", Cond.fieldLink RX9 132 "PaperRounds$Houses" "papers" "[I", Cond.fieldLink RX9 135 "PaperRounds$Houses" "tip" "[I", Cond.fieldLink RX9 138 "PaperRounds$Houses" "carrier" "[I", Cond.fieldLink RX9 141 "PaperRounds$Houses" "period" "[I", Cond.fieldLink RX9 144 "PaperRounds$Town" "pauses" "LPaperRounds$Pauses;", Cond.fieldLink RX9 148 "PaperRounds$Town" "day" "I", Cond.fieldLink RX9 158 "PaperRounds$Houses" "delivered" "[I", Cond.fieldLink RX9 161 "PaperRounds$Houses" "paused" "[I", Cond.fieldLink RX9 164 "PaperRounds$Houses" "returned" "[I", Cond.fieldLink RX9 167 "PaperRounds$Houses" "lost" "[I", Cond.fieldLink RX9 170 "PaperRounds$Houses" "complaints" "[I", Cond.fieldLink RX9 173 "PaperRounds$Houses" "freshComplaints" "[I", Cond.methodLink RX9 126 yX2_has, Cond.methodLink RX9 152 yX3_cover, Cond.methodLink RL 64 yX10_houseOf]
def wsL_law_r28 : List Cond := [Cond.instanceMethod yX10_houseOf, Cond.selects RX10 yX10_houseOf yX10_houseOf, Cond.code yX10_houseOf cX10_houseOf 3 (some .int), Cond.methodLink RL 65 yX9_shareBits, Cond.instanceMethod yX9_shareBits, Cond.selects RX9 yX9_shareBits yX9_shareBits, Cond.code yX9_shareBits cX9_shareBits 2 (some .int), Cond.methodLink RX9 176 yX2_papersDue, Cond.instanceMethod yX2_papersDue, Cond.selects RX2 yX2_papersDue yX2_papersDue, Cond.code yX2_papersDue cX2_papersDue 2 (some .int), Cond.methodLink RX9 179 yX2_share, Cond.instanceMethod yX2_share, Cond.selects RX2 yX2_share yX2_share, Cond.code yX2_share cX2_share 3 (some .float), Cond.methodLink RX2 74 yX2_papersDue, Cond.methodLink RX9 183 yX9_bitsOf, Cond.static yX9_bitsOf, Cond.code yX9_bitsOf cX9_bitsOf 4 (some .int), Cond.constantFloat RX9 311 (1258291200), Cond.constant RX9 312 (8388608), Cond.methodLink RL 68 yX10_shareBits, Cond.instanceMethod yX10_shareBits, Cond.selects RX10 yX10_shareBits yX10_shareBits]
def wsL_law_r29 : List Cond := [Cond.code yX10_shareBits cX10_shareBits 2 (some .int), Cond.methodLink RX10 170 yX10_dueOf, Cond.instanceMethod yX10_dueOf, Cond.selects RX10 yX10_dueOf yX10_dueOf, Cond.code yX10_dueOf cX10_dueOf 2 (some .int), Cond.methodLink RX10 174 yX10_shareOf, Cond.instanceMethod yX10_shareOf, Cond.selects RX10 yX10_shareOf yX10_shareOf, Cond.code yX10_shareOf cX10_shareOf 2 (some .float), Cond.methodLink RX10 178 yX10_bitsOf, Cond.static yX10_bitsOf, Cond.code yX10_bitsOf cX10_bitsOf 3 (some .int), Cond.constantFloat RX10 173 (1258291200), Cond.methodLink RL 69 yX9_meanBits, Cond.instanceMethod yX9_meanBits, Cond.selects RX9 yX9_meanBits yX9_meanBits, Cond.code yX9_meanBits cX9_meanBits 5 (some .int), Cond.fieldLink RX9 187 "PaperRounds$Houses" "many" "I", Cond.methodLink RL 73 yX10_meanBits, Cond.instanceMethod yX10_meanBits, Cond.selects RX10 yX10_meanBits yX10_meanBits, Cond.code yX10_meanBits cX10_meanBits 5 (some .int), Cond.methodLink RL 74 yX9_carrierOf, Cond.instanceMethod yX9_carrierOf]
def wsL_law_r30 : List Cond := [Cond.selects RX9 yX9_carrierOf yX9_carrierOf, Cond.code yX9_carrierOf cX9_carrierOf 4 (some .int), Cond.fieldLink RX9 190 "PaperRounds$Town" "carriers" "LPaperRounds$Carriers;", Cond.fieldLink RX9 197 "PaperRounds$Carriers" "cart" "[I", Cond.fieldLink RX9 200 "PaperRounds$Carriers" "limit" "[I", Cond.fieldLink RX9 203 "PaperRounds$Carriers" "biscuits" "[I", Cond.fieldLink RX9 209 "PaperRounds$Carriers" "trips" "[I", Cond.fieldLink RX9 212 "PaperRounds$Carriers" "effort" "[I", Cond.fieldLink RX9 215 "PaperRounds$Carriers" "tips" "[I", Cond.fieldLink RX9 218 "PaperRounds$Carriers" "delivered" "[I", Cond.methodLink RX9 194 yX0_has, Cond.methodLink RX9 206 yX2_manyOf, Cond.methodLink RL 77 yX10_carrierOf, Cond.instanceMethod yX10_carrierOf, Cond.selects RX10 yX10_carrierOf yX10_carrierOf, Cond.code yX10_carrierOf cX10_carrierOf 3 (some .int), Cond.methodLink RL 78 yX9_pauseOf, Cond.instanceMethod yX9_pauseOf, Cond.selects RX9 yX9_pauseOf yX9_pauseOf, Cond.code yX9_pauseOf cX9_pauseOf 4 (some .int), Cond.fieldLink RX9 219 "PaperRounds$Pauses" "many" "I", Cond.fieldLink RX9 220 "PaperRounds$Pauses" "house" "[I", Cond.fieldLink RX9 223 "PaperRounds$Pauses" "first" "[I", Cond.fieldLink RX9 226 "PaperRounds$Pauses" "last" "[I"]
def wsL_law_r31 : List Cond := [Cond.methodLink RL 81 yX10_pauseOf, Cond.instanceMethod yX10_pauseOf, Cond.selects RX10 yX10_pauseOf yX10_pauseOf, Cond.code yX10_pauseOf cX10_pauseOf 3 (some .int), Cond.methodLink RL 82 yX9_roundAt, Cond.instanceMethod yX9_roundAt, Cond.selects RX9 yX9_roundAt yX9_roundAt, Cond.code yX9_roundAt cX9_roundAt 7 (some .int), Cond.fieldLink RX9 229 "PaperRounds$Houses" "order" "[I", Cond.methodLink RL 85 yX10_roundAt, Cond.instanceMethod yX10_roundAt, Cond.selects RX10 yX10_roundAt yX10_roundAt, Cond.code yX10_roundAt cX10_roundAt 5 (some .int), Cond.methodLink RL 86 yX9_round, Cond.instanceMethod yX9_round, Cond.selects RX9 yX9_round yX9_round, Cond.code yX9_round cX9_round 4 (some .int), Cond.fieldLink RX9 236 "PaperRounds$Walk" "trips" "I", Cond.fieldLink RX9 238 "PaperRounds$Walk" "effort" "I", Cond.fieldLink RX9 240 "PaperRounds$Walk" "papers" "I", Cond.fieldLink RX9 242 "PaperRounds$Walk" "dogs" "I", Cond.methodLink RX9 232 yX8_go, Cond.methodLink RL 89 yX10_round, Cond.instanceMethod yX10_round]
def wsL_law_r32 : List Cond := [Cond.selects RX10 yX10_round yX10_round, Cond.code yX10_round cX10_round 5 (some .int), Cond.methodLink RL 90 yX9_lightest, Cond.instanceMethod yX9_lightest, Cond.selects RX9 yX9_lightest yX9_lightest, Cond.code yX9_lightest cX9_lightest 7 (some .int), Cond.fieldLink RX9 245 "PaperRounds$Carriers" "many" "I", Cond.methodLink RX9 246 yX6_canReach, Cond.methodLink RX9 249 yX8_moreEffort, Cond.instanceMethod yX8_moreEffort, Cond.selects RX8 yX8_moreEffort yX8_moreEffort, Cond.code yX8_moreEffort cX8_moreEffort 6 (some .int), Cond.methodLink RX8 103 yX8_go, Cond.methodLink RL 93 yX10_lightest, Cond.instanceMethod yX10_lightest, Cond.selects RX10 yX10_lightest yX10_lightest, Cond.code yX10_lightest cX10_lightest 8 (some .int), Cond.methodLink RX10 182 yX10_moreBy, Cond.instanceMethod yX10_moreBy, Cond.selects RX10 yX10_moreBy yX10_moreBy, Cond.code yX10_moreBy cX10_moreBy 7 (some .int), Cond.methodLink RL 94 yX9_nextDog, Cond.instanceMethod yX9_nextDog, Cond.selects RX9 yX9_nextDog yX9_nextDog]
def wsL_law_r33 : List Cond := [Cond.code yX9_nextDog cX9_nextDog 3 (some .int), Cond.methodLink RX9 253 yX2_dogIsOut, Cond.methodLink RL 97 yX10_nextDog, Cond.instanceMethod yX10_nextDog, Cond.selects RX10 yX10_nextDog yX10_nextDog, Cond.code yX10_nextDog cX10_nextDog 3 (some .int), Cond.methodLink RL 98 yX9_account, Cond.instanceMethod yX9_account, Cond.selects RX9 yX9_account yX9_account, Cond.code yX9_account cX9_account 2 (some .int), Cond.fieldLink RX9 256 "PaperRounds$Town" "accounts" "[I", Cond.methodLink RL 101 yX10_account, Cond.instanceMethod yX10_account, Cond.selects RX10 yX10_account yX10_account, Cond.code yX10_account cX10_account 2 (some .int), Cond.methodLink RX10 185 yX10_overHouses, Cond.instanceMethod yX10_overHouses, Cond.selects RX10 yX10_overHouses yX10_overHouses, Cond.code yX10_overHouses cX10_overHouses 4 (some .int), Cond.methodLink RL 102 yX9_count, Cond.instanceMethod yX9_count, Cond.selects RX9 yX9_count yX9_count, Cond.code yX9_count cX9_count 2 (some .int), Cond.fieldLink RX9 259 "PaperRounds$Streets" "many" "I"]
def wsL_law_r34 : List Cond := [Cond.fieldLink RX9 270 "PaperRounds$History" "kept" "I", Cond.fieldLink RX9 273 "PaperRounds$Text" "length" "I", Cond.fieldLink RX9 275 "PaperRounds$Town" "weight" "I", Cond.fieldLink RX9 278 "PaperRounds$Town" "sundayWeight" "I", Cond.methodLink RX9 260 yX6_housesPaused, Cond.instanceMethod yX6_housesPaused, Cond.selects RX6 yX6_housesPaused yX6_housesPaused, Cond.code yX6_housesPaused cX6_housesPaused 3 (some .int), Cond.methodLink RX9 264 yX2_allComplaints, Cond.instanceMethod yX2_allComplaints, Cond.selects RX2 yX2_allComplaints yX2_allComplaints, Cond.code yX2_allComplaints cX2_allComplaints 3 (some .int), Cond.methodLink RX9 267 yX0_allTips, Cond.instanceMethod yX0_allTips, Cond.selects RX0 yX0_allTips yX0_allTips, Cond.code yX0_allTips cX0_allTips 3 (some .int), Cond.methodLink RL 105 yX10_count, Cond.instanceMethod yX10_count, Cond.selects RX10 yX10_count yX10_count, Cond.code yX10_count cX10_count 2 (some .int), Cond.fieldLink RX10 194 "PaperRoundsModel" "typed" "I", Cond.methodLink RX10 188 yX10_pausedNow, Cond.instanceMethod yX10_pausedNow, Cond.selects RX10 yX10_pausedNow yX10_pausedNow]
def wsL_law_r35 : List Cond := [Cond.code yX10_pausedNow cX10_pausedNow 3 (some .int), Cond.methodLink RX10 191 yX10_tipsAll, Cond.instanceMethod yX10_tipsAll, Cond.selects RX10 yX10_tipsAll yX10_tipsAll, Cond.code yX10_tipsAll cX10_tipsAll 3 (some .int), Cond.methodLink RL 106 yX9_undo, Cond.instanceMethod yX9_undo, Cond.selects RX9 yX9_undo yX9_undo, Cond.code yX9_undo cX9_undo 1 (some .int), Cond.methodLink RX9 281 yX1_restoreInto, Cond.instanceMethod yX1_restoreInto, Cond.selects RX1 yX1_restoreInto yX1_restoreInto, Cond.code yX1_restoreInto cX1_restoreInto 2 none, Cond.methodLink RL 109 yX10_undo, Cond.instanceMethod yX10_undo, Cond.selects RX10 yX10_undo yX10_undo, Cond.code yX10_undo cX10_undo 1 (some .int), Cond.methodLink RL 110 yX9_type, Cond.instanceMethod yX9_type, Cond.selects RX9 yX9_type yX9_type, Cond.code yX9_type cX9_type 2 (some .int), Cond.methodLink RX9 284 yX5_append, Cond.instanceMethod yX5_append, Cond.selects RX5 yX5_append yX5_append]
def wsL_law_r36 : List Cond := [Cond.code yX5_append cX5_append 2 (some .int), Cond.methodLink RL 113 yX10_type, Cond.instanceMethod yX10_type, Cond.selects RX10 yX10_type yX10_type, Cond.code yX10_type cX10_type 2 (some .int), Cond.methodLink RL 114 yX9_clearText, Cond.instanceMethod yX9_clearText, Cond.selects RX9 yX9_clearText yX9_clearText, Cond.code yX9_clearText cX9_clearText 2 (some .int), Cond.methodLink RL 117 yX10_clearText, Cond.instanceMethod yX10_clearText, Cond.selects RX10 yX10_clearText yX10_clearText, Cond.code yX10_clearText cX10_clearText 2 (some .int), Cond.methodLink RL 118 yX9_fault, Cond.instanceMethod yX9_fault, Cond.selects RX9 yX9_fault yX9_fault, Cond.code yX9_fault cX9_fault 2 (some .int), Cond.fieldLink RX9 292 "PaperRounds$Trial" "reason" "I", Cond.fieldLink RX9 295 "PaperRounds$Trial" "position" "I", Cond.fieldLink RX9 298 "PaperRounds$Trial" "cause" "I", Cond.methodLink RX9 288 yX7_run, Cond.instanceMethod yX7_run, Cond.selects RX7 yX7_run yX7_run, Cond.code yX7_run cX7_run 5 none]
def wsL_law_r37 : List Cond := [Cond.fieldLink RX7 35 "PaperRounds$Text" "length" "I", Cond.fieldLink RX7 44 "PaperRounds$Text" "kind" "C", Cond.fieldLink RX7 48 "PaperRounds$Text" "numbers" "[I", Cond.fieldLink RX7 56 "PaperRounds$Text" "next" "I", Cond.methodLink RX7 31 yX6_copyFrom, Cond.methodLink RX7 40 yX5_readOrder, Cond.instanceMethod yX5_readOrder, Cond.selects RX5 yX5_readOrder yX5_readOrder, Cond.code yX5_readOrder cX5_readOrder 5 (some .boolean), Cond.methodLink RX5 34 yX5_numbersOf, Cond.static yX5_numbersOf, Cond.code yX5_numbersOf cX5_numbersOf 1 (some .int), Cond.methodLink RX5 38 yX5_readNumber, Cond.instanceMethod yX5_readNumber, Cond.selects RX5 yX5_readNumber yX5_readNumber, Cond.code yX5_readNumber cX5_readNumber 3 (some .int), Cond.methodLink RX5 42 yX5_readSign, Cond.instanceMethod yX5_readSign, Cond.selects RX5 yX5_readSign yX5_readSign, Cond.code yX5_readSign cX5_readSign 2 (some .boolean), Cond.methodLink RX7 52 yX7_answerOf, Cond.instanceMethod yX7_answerOf, Cond.selects RX7 yX7_answerOf yX7_answerOf, Cond.code yX7_answerOf cX7_answerOf 4 (some .int)]
def wsL_law_r38 : List Cond := [Cond.methodLink RX7 59 yX6_addPause, Cond.methodLink RX7 63 yX6_handOver, Cond.methodLink RX7 67 yX6_takeBack, Cond.methodLink RX7 71 yX6_addBiscuits, Cond.methodLink RX7 74 yX6_letDaysGo, Cond.methodLink RL 121 yX10_fault, Cond.instanceMethod yX10_fault, Cond.selects RX10 yX10_fault yX10_fault, Cond.code yX10_fault cX10_fault 3 (some .int), Cond.fieldLink RX10 215 "PaperRoundsModel" "faultAt" "I", Cond.fieldLink RX10 212 "PaperRoundsModel" "cause" "I", Cond.methodLink RX10 227 yX10_looks, Cond.instanceMethod yX10_looks, Cond.selects RX10 yX10_looks yX10_looks, Cond.code yX10_looks cX10_looks 2 (some .int), Cond.methodLink RX10 224 yX10_doesAll, Cond.instanceMethod yX10_doesAll, Cond.selects RX10 yX10_doesAll yX10_doesAll, Cond.code yX10_doesAll cX10_doesAll 3 (some .int), Cond.fieldLink RX10 209 "PaperRoundsModel" "orders" "I", Cond.fieldLink RX10 197 "PaperRoundsModel" "at" "I", Cond.methodLink RX10 218 yX10_reads, Cond.instanceMethod yX10_reads, Cond.selects RX10 yX10_reads yX10_reads]
def wsL_law_r39 : List Cond := [Cond.code yX10_reads cX10_reads 5 (some .boolean), Cond.fieldLink RX10 203 "PaperRoundsModel" "letter" "I", Cond.methodLink RX10 200 yX10_signAt, Cond.instanceMethod yX10_signAt, Cond.selects RX10 yX10_signAt yX10_signAt, Cond.code yX10_signAt cX10_signAt 2 (some .int), Cond.methodLink RX10 206 yX10_readsNumber, Cond.instanceMethod yX10_readsNumber, Cond.selects RX10 yX10_readsNumber yX10_readsNumber, Cond.code yX10_readsNumber cX10_readsNumber 4 (some .boolean), Cond.methodLink RX10 221 yX10_does, Cond.instanceMethod yX10_does, Cond.selects RX10 yX10_does yX10_does, Cond.code yX10_does cX10_does 1 (some .int), Cond.methodLink RL 122 yX9_play, Cond.instanceMethod yX9_play, Cond.selects RX9 yX9_play yX9_play, Cond.code yX9_play cX9_play 1 (some .int), Cond.fieldLink RX9 301 "PaperRounds$Trial" "town" "LPaperRounds$Town;", Cond.fieldLink RX9 305 "PaperRounds$Trial" "orders" "I", Cond.methodLink RX9 302 yX6_copyFrom, Cond.methodLink RL 125 yX10_play, Cond.instanceMethod yX10_play, Cond.selects RX10 yX10_play yX10_play]
def wsL_law_r40 : List Cond := [Cond.code yX10_play cX10_play 2 (some .int)]
def wsL_law : List Cond := (wsL_law_r1 ++ (wsL_law_r2 ++ (wsL_law_r3 ++ (wsL_law_r4 ++ (wsL_law_r5 ++ (wsL_law_r6 ++ (wsL_law_r7 ++ (wsL_law_r8 ++ (wsL_law_r9 ++ (wsL_law_r10 ++ (wsL_law_r11 ++ (wsL_law_r12 ++ (wsL_law_r13 ++ (wsL_law_r14 ++ (wsL_law_r15 ++ (wsL_law_r16 ++ (wsL_law_r17 ++ (wsL_law_r18 ++ (wsL_law_r19 ++ (wsL_law_r20 ++ (wsL_law_r21 ++ (wsL_law_r22 ++ (wsL_law_r23 ++ (wsL_law_r24 ++ (wsL_law_r25 ++ (wsL_law_r26 ++ (wsL_law_r27 ++ (wsL_law_r28 ++ (wsL_law_r29 ++ (wsL_law_r30 ++ (wsL_law_r31 ++ (wsL_law_r32 ++ (wsL_law_r33 ++ (wsL_law_r34 ++ (wsL_law_r35 ++ (wsL_law_r36 ++ (wsL_law_r37 ++ (wsL_law_r38 ++ (wsL_law_r39 ++ wsL_law_r40))))))))))))))))))))))))))))))))))))))) ++ wsX90 ++ wsX100 ++ wsX60 ++ wsX10 ++ wsX80 ++ wsX50 ++ wsX70 ++ wsX40 ++ wsX20 ++ wsX30 ++ wsX00 ++ ([] : List Cond)
theorem inlX0 : ∀ w ∈ wsX00, w ∈ wsL_law := fun _ h => List.mem_append_left _ (List.mem_append_right _ h)
theorem inlX1 : ∀ w ∈ wsX10, w ∈ wsL_law := fun _ h => List.mem_append_left _ (List.mem_append_left _ (List.mem_append_left _ (List.mem_append_left _ (List.mem_append_left _ (List.mem_append_left _ (List.mem_append_left _ (List.mem_append_left _ (List.mem_append_right _ h))))))))
theorem inlX2 : ∀ w ∈ wsX20, w ∈ wsL_law := fun _ h => List.mem_append_left _ (List.mem_append_left _ (List.mem_append_left _ (List.mem_append_right _ h)))
theorem inlX3 : ∀ w ∈ wsX30, w ∈ wsL_law := fun _ h => List.mem_append_left _ (List.mem_append_left _ (List.mem_append_right _ h))
theorem inlX4 : ∀ w ∈ wsX40, w ∈ wsL_law := fun _ h => List.mem_append_left _ (List.mem_append_left _ (List.mem_append_left _ (List.mem_append_left _ (List.mem_append_right _ h))))
theorem inlX5 : ∀ w ∈ wsX50, w ∈ wsL_law := fun _ h => List.mem_append_left _ (List.mem_append_left _ (List.mem_append_left _ (List.mem_append_left _ (List.mem_append_left _ (List.mem_append_left _ (List.mem_append_right _ h))))))
theorem inlX6 : ∀ w ∈ wsX60, w ∈ wsL_law := fun _ h => List.mem_append_left _ (List.mem_append_left _ (List.mem_append_left _ (List.mem_append_left _ (List.mem_append_left _ (List.mem_append_left _ (List.mem_append_left _ (List.mem_append_left _ (List.mem_append_left _ (List.mem_append_right _ h)))))))))
theorem inlX7 : ∀ w ∈ wsX70, w ∈ wsL_law := fun _ h => List.mem_append_left _ (List.mem_append_left _ (List.mem_append_left _ (List.mem_append_left _ (List.mem_append_left _ (List.mem_append_right _ h)))))
theorem inlX8 : ∀ w ∈ wsX80, w ∈ wsL_law := fun _ h => List.mem_append_left _ (List.mem_append_left _ (List.mem_append_left _ (List.mem_append_left _ (List.mem_append_left _ (List.mem_append_left _ (List.mem_append_left _ (List.mem_append_right _ h)))))))
theorem inlX9 : ∀ w ∈ wsX90, w ∈ wsL_law := fun _ h => List.mem_append_left _ (List.mem_append_left _ (List.mem_append_left _ (List.mem_append_left _ (List.mem_append_left _ (List.mem_append_left _ (List.mem_append_left _ (List.mem_append_left _ (List.mem_append_left _ (List.mem_append_left _ (List.mem_append_left _ (List.mem_append_right _ h)))))))))))
theorem inlX10 : ∀ w ∈ wsX100, w ∈ wsL_law := fun _ h => List.mem_append_left _ (List.mem_append_left _ (List.mem_append_left _ (List.mem_append_left _ (List.mem_append_left _ (List.mem_append_left _ (List.mem_append_left _ (List.mem_append_left _ (List.mem_append_left _ (List.mem_append_left _ (List.mem_append_right _ h))))))))))
abbrev vwCl : List vw_C := [(RX0, TX0, 8), (RX1, TX1, 3), (RX2, TX2, 15), (RX3, TX3, 4), (RX4, TX4, 9), (RX5, TX5, 5), (RX6, TX6, 8), (RX7, TX7, 5), (RX8, TX8, 6), (RX9, TX9, 5), (RX10, TX10, 20)]
theorem wsL_c1 : ∀ w ∈ wsL_law_r1, w ∈ wsL_law := fun _ h => List.mem_append_left _ (List.mem_append_left _ (List.mem_append_left _ (List.mem_append_left _ (List.mem_append_left _ (List.mem_append_left _ (List.mem_append_left _ (List.mem_append_left _ (List.mem_append_left _ (List.mem_append_left _ (List.mem_append_left _ (List.mem_append_left _ (List.mem_append_left _ h))))))))))))
theorem wsL_c2 : ∀ w ∈ wsL_law_r2, w ∈ wsL_law := fun _ h => List.mem_append_left _ (List.mem_append_left _ (List.mem_append_left _ (List.mem_append_left _ (List.mem_append_left _ (List.mem_append_left _ (List.mem_append_left _ (List.mem_append_left _ (List.mem_append_left _ (List.mem_append_left _ (List.mem_append_left _ (List.mem_append_left _ (List.mem_append_right _ (List.mem_append_left _ h)))))))))))))
theorem wsL_c3 : ∀ w ∈ wsL_law_r3, w ∈ wsL_law := fun _ h => List.mem_append_left _ (List.mem_append_left _ (List.mem_append_left _ (List.mem_append_left _ (List.mem_append_left _ (List.mem_append_left _ (List.mem_append_left _ (List.mem_append_left _ (List.mem_append_left _ (List.mem_append_left _ (List.mem_append_left _ (List.mem_append_left _ (List.mem_append_right _ (List.mem_append_right _ (List.mem_append_left _ h))))))))))))))
theorem wsL_c4 : ∀ w ∈ wsL_law_r4, w ∈ wsL_law := fun _ h => List.mem_append_left _ (List.mem_append_left _ (List.mem_append_left _ (List.mem_append_left _ (List.mem_append_left _ (List.mem_append_left _ (List.mem_append_left _ (List.mem_append_left _ (List.mem_append_left _ (List.mem_append_left _ (List.mem_append_left _ (List.mem_append_left _ (List.mem_append_right _ (List.mem_append_right _ (List.mem_append_right _ (List.mem_append_left _ h)))))))))))))))
theorem wsL_c5 : ∀ w ∈ wsL_law_r5, w ∈ wsL_law := fun _ h => List.mem_append_left _ (List.mem_append_left _ (List.mem_append_left _ (List.mem_append_left _ (List.mem_append_left _ (List.mem_append_left _ (List.mem_append_left _ (List.mem_append_left _ (List.mem_append_left _ (List.mem_append_left _ (List.mem_append_left _ (List.mem_append_left _ (List.mem_append_right _ (List.mem_append_right _ (List.mem_append_right _ (List.mem_append_right _ (List.mem_append_left _ h))))))))))))))))
theorem wsL_c6 : ∀ w ∈ wsL_law_r6, w ∈ wsL_law := fun _ h => List.mem_append_left _ (List.mem_append_left _ (List.mem_append_left _ (List.mem_append_left _ (List.mem_append_left _ (List.mem_append_left _ (List.mem_append_left _ (List.mem_append_left _ (List.mem_append_left _ (List.mem_append_left _ (List.mem_append_left _ (List.mem_append_left _ (List.mem_append_right _ (List.mem_append_right _ (List.mem_append_right _ (List.mem_append_right _ (List.mem_append_right _ (List.mem_append_left _ h)))))))))))))))))
theorem wsL_c7 : ∀ w ∈ wsL_law_r7, w ∈ wsL_law := fun _ h => List.mem_append_left _ (List.mem_append_left _ (List.mem_append_left _ (List.mem_append_left _ (List.mem_append_left _ (List.mem_append_left _ (List.mem_append_left _ (List.mem_append_left _ (List.mem_append_left _ (List.mem_append_left _ (List.mem_append_left _ (List.mem_append_left _ (List.mem_append_right _ (List.mem_append_right _ (List.mem_append_right _ (List.mem_append_right _ (List.mem_append_right _ (List.mem_append_right _ (List.mem_append_left _ h))))))))))))))))))
theorem wsL_c8 : ∀ w ∈ wsL_law_r8, w ∈ wsL_law := fun _ h => List.mem_append_left _ (List.mem_append_left _ (List.mem_append_left _ (List.mem_append_left _ (List.mem_append_left _ (List.mem_append_left _ (List.mem_append_left _ (List.mem_append_left _ (List.mem_append_left _ (List.mem_append_left _ (List.mem_append_left _ (List.mem_append_left _ (List.mem_append_right _ (List.mem_append_right _ (List.mem_append_right _ (List.mem_append_right _ (List.mem_append_right _ (List.mem_append_right _ (List.mem_append_right _ (List.mem_append_left _ h)))))))))))))))))))
theorem wsL_c9 : ∀ w ∈ wsL_law_r9, w ∈ wsL_law := fun _ h => List.mem_append_left _ (List.mem_append_left _ (List.mem_append_left _ (List.mem_append_left _ (List.mem_append_left _ (List.mem_append_left _ (List.mem_append_left _ (List.mem_append_left _ (List.mem_append_left _ (List.mem_append_left _ (List.mem_append_left _ (List.mem_append_left _ (List.mem_append_right _ (List.mem_append_right _ (List.mem_append_right _ (List.mem_append_right _ (List.mem_append_right _ (List.mem_append_right _ (List.mem_append_right _ (List.mem_append_right _ (List.mem_append_left _ h))))))))))))))))))))
theorem wsL_c10 : ∀ w ∈ wsL_law_r10, w ∈ wsL_law := fun _ h => List.mem_append_left _ (List.mem_append_left _ (List.mem_append_left _ (List.mem_append_left _ (List.mem_append_left _ (List.mem_append_left _ (List.mem_append_left _ (List.mem_append_left _ (List.mem_append_left _ (List.mem_append_left _ (List.mem_append_left _ (List.mem_append_left _ (List.mem_append_right _ (List.mem_append_right _ (List.mem_append_right _ (List.mem_append_right _ (List.mem_append_right _ (List.mem_append_right _ (List.mem_append_right _ (List.mem_append_right _ (List.mem_append_right _ (List.mem_append_left _ h)))))))))))))))))))))
theorem wsL_c11 : ∀ w ∈ wsL_law_r11, w ∈ wsL_law := fun _ h => List.mem_append_left _ (List.mem_append_left _ (List.mem_append_left _ (List.mem_append_left _ (List.mem_append_left _ (List.mem_append_left _ (List.mem_append_left _ (List.mem_append_left _ (List.mem_append_left _ (List.mem_append_left _ (List.mem_append_left _ (List.mem_append_left _ (List.mem_append_right _ (List.mem_append_right _ (List.mem_append_right _ (List.mem_append_right _ (List.mem_append_right _ (List.mem_append_right _ (List.mem_append_right _ (List.mem_append_right _ (List.mem_append_right _ (List.mem_append_right _ (List.mem_append_left _ h))))))))))))))))))))))
theorem wsL_c12 : ∀ w ∈ wsL_law_r12, w ∈ wsL_law := fun _ h => List.mem_append_left _ (List.mem_append_left _ (List.mem_append_left _ (List.mem_append_left _ (List.mem_append_left _ (List.mem_append_left _ (List.mem_append_left _ (List.mem_append_left _ (List.mem_append_left _ (List.mem_append_left _ (List.mem_append_left _ (List.mem_append_left _ (List.mem_append_right _ (List.mem_append_right _ (List.mem_append_right _ (List.mem_append_right _ (List.mem_append_right _ (List.mem_append_right _ (List.mem_append_right _ (List.mem_append_right _ (List.mem_append_right _ (List.mem_append_right _ (List.mem_append_right _ (List.mem_append_left _ h)))))))))))))))))))))))
theorem wsL_c13 : ∀ w ∈ wsL_law_r13, w ∈ wsL_law := fun _ h => List.mem_append_left _ (List.mem_append_left _ (List.mem_append_left _ (List.mem_append_left _ (List.mem_append_left _ (List.mem_append_left _ (List.mem_append_left _ (List.mem_append_left _ (List.mem_append_left _ (List.mem_append_left _ (List.mem_append_left _ (List.mem_append_left _ (List.mem_append_right _ (List.mem_append_right _ (List.mem_append_right _ (List.mem_append_right _ (List.mem_append_right _ (List.mem_append_right _ (List.mem_append_right _ (List.mem_append_right _ (List.mem_append_right _ (List.mem_append_right _ (List.mem_append_right _ (List.mem_append_right _ (List.mem_append_left _ h))))))))))))))))))))))))
theorem wsL_c14 : ∀ w ∈ wsL_law_r14, w ∈ wsL_law := fun _ h => List.mem_append_left _ (List.mem_append_left _ (List.mem_append_left _ (List.mem_append_left _ (List.mem_append_left _ (List.mem_append_left _ (List.mem_append_left _ (List.mem_append_left _ (List.mem_append_left _ (List.mem_append_left _ (List.mem_append_left _ (List.mem_append_left _ (List.mem_append_right _ (List.mem_append_right _ (List.mem_append_right _ (List.mem_append_right _ (List.mem_append_right _ (List.mem_append_right _ (List.mem_append_right _ (List.mem_append_right _ (List.mem_append_right _ (List.mem_append_right _ (List.mem_append_right _ (List.mem_append_right _ (List.mem_append_right _ (List.mem_append_left _ h)))))))))))))))))))))))))
theorem wsL_c15 : ∀ w ∈ wsL_law_r15, w ∈ wsL_law := fun _ h => List.mem_append_left _ (List.mem_append_left _ (List.mem_append_left _ (List.mem_append_left _ (List.mem_append_left _ (List.mem_append_left _ (List.mem_append_left _ (List.mem_append_left _ (List.mem_append_left _ (List.mem_append_left _ (List.mem_append_left _ (List.mem_append_left _ (List.mem_append_right _ (List.mem_append_right _ (List.mem_append_right _ (List.mem_append_right _ (List.mem_append_right _ (List.mem_append_right _ (List.mem_append_right _ (List.mem_append_right _ (List.mem_append_right _ (List.mem_append_right _ (List.mem_append_right _ (List.mem_append_right _ (List.mem_append_right _ (List.mem_append_right _ (List.mem_append_left _ h))))))))))))))))))))))))))
theorem wsL_c16 : ∀ w ∈ wsL_law_r16, w ∈ wsL_law := fun _ h => List.mem_append_left _ (List.mem_append_left _ (List.mem_append_left _ (List.mem_append_left _ (List.mem_append_left _ (List.mem_append_left _ (List.mem_append_left _ (List.mem_append_left _ (List.mem_append_left _ (List.mem_append_left _ (List.mem_append_left _ (List.mem_append_left _ (List.mem_append_right _ (List.mem_append_right _ (List.mem_append_right _ (List.mem_append_right _ (List.mem_append_right _ (List.mem_append_right _ (List.mem_append_right _ (List.mem_append_right _ (List.mem_append_right _ (List.mem_append_right _ (List.mem_append_right _ (List.mem_append_right _ (List.mem_append_right _ (List.mem_append_right _ (List.mem_append_right _ (List.mem_append_left _ h)))))))))))))))))))))))))))
theorem wsL_c17 : ∀ w ∈ wsL_law_r17, w ∈ wsL_law := fun _ h => List.mem_append_left _ (List.mem_append_left _ (List.mem_append_left _ (List.mem_append_left _ (List.mem_append_left _ (List.mem_append_left _ (List.mem_append_left _ (List.mem_append_left _ (List.mem_append_left _ (List.mem_append_left _ (List.mem_append_left _ (List.mem_append_left _ (List.mem_append_right _ (List.mem_append_right _ (List.mem_append_right _ (List.mem_append_right _ (List.mem_append_right _ (List.mem_append_right _ (List.mem_append_right _ (List.mem_append_right _ (List.mem_append_right _ (List.mem_append_right _ (List.mem_append_right _ (List.mem_append_right _ (List.mem_append_right _ (List.mem_append_right _ (List.mem_append_right _ (List.mem_append_right _ (List.mem_append_left _ h))))))))))))))))))))))))))))
theorem wsL_c18 : ∀ w ∈ wsL_law_r18, w ∈ wsL_law := fun _ h => List.mem_append_left _ (List.mem_append_left _ (List.mem_append_left _ (List.mem_append_left _ (List.mem_append_left _ (List.mem_append_left _ (List.mem_append_left _ (List.mem_append_left _ (List.mem_append_left _ (List.mem_append_left _ (List.mem_append_left _ (List.mem_append_left _ (List.mem_append_right _ (List.mem_append_right _ (List.mem_append_right _ (List.mem_append_right _ (List.mem_append_right _ (List.mem_append_right _ (List.mem_append_right _ (List.mem_append_right _ (List.mem_append_right _ (List.mem_append_right _ (List.mem_append_right _ (List.mem_append_right _ (List.mem_append_right _ (List.mem_append_right _ (List.mem_append_right _ (List.mem_append_right _ (List.mem_append_right _ (List.mem_append_left _ h)))))))))))))))))))))))))))))
theorem wsL_c19 : ∀ w ∈ wsL_law_r19, w ∈ wsL_law := fun _ h => List.mem_append_left _ (List.mem_append_left _ (List.mem_append_left _ (List.mem_append_left _ (List.mem_append_left _ (List.mem_append_left _ (List.mem_append_left _ (List.mem_append_left _ (List.mem_append_left _ (List.mem_append_left _ (List.mem_append_left _ (List.mem_append_left _ (List.mem_append_right _ (List.mem_append_right _ (List.mem_append_right _ (List.mem_append_right _ (List.mem_append_right _ (List.mem_append_right _ (List.mem_append_right _ (List.mem_append_right _ (List.mem_append_right _ (List.mem_append_right _ (List.mem_append_right _ (List.mem_append_right _ (List.mem_append_right _ (List.mem_append_right _ (List.mem_append_right _ (List.mem_append_right _ (List.mem_append_right _ (List.mem_append_right _ (List.mem_append_left _ h))))))))))))))))))))))))))))))
theorem wsL_c20 : ∀ w ∈ wsL_law_r20, w ∈ wsL_law := fun _ h => List.mem_append_left _ (List.mem_append_left _ (List.mem_append_left _ (List.mem_append_left _ (List.mem_append_left _ (List.mem_append_left _ (List.mem_append_left _ (List.mem_append_left _ (List.mem_append_left _ (List.mem_append_left _ (List.mem_append_left _ (List.mem_append_left _ (List.mem_append_right _ (List.mem_append_right _ (List.mem_append_right _ (List.mem_append_right _ (List.mem_append_right _ (List.mem_append_right _ (List.mem_append_right _ (List.mem_append_right _ (List.mem_append_right _ (List.mem_append_right _ (List.mem_append_right _ (List.mem_append_right _ (List.mem_append_right _ (List.mem_append_right _ (List.mem_append_right _ (List.mem_append_right _ (List.mem_append_right _ (List.mem_append_right _ (List.mem_append_right _ (List.mem_append_left _ h)))))))))))))))))))))))))))))))
theorem wsL_c21 : ∀ w ∈ wsL_law_r21, w ∈ wsL_law := fun _ h => List.mem_append_left _ (List.mem_append_left _ (List.mem_append_left _ (List.mem_append_left _ (List.mem_append_left _ (List.mem_append_left _ (List.mem_append_left _ (List.mem_append_left _ (List.mem_append_left _ (List.mem_append_left _ (List.mem_append_left _ (List.mem_append_left _ (List.mem_append_right _ (List.mem_append_right _ (List.mem_append_right _ (List.mem_append_right _ (List.mem_append_right _ (List.mem_append_right _ (List.mem_append_right _ (List.mem_append_right _ (List.mem_append_right _ (List.mem_append_right _ (List.mem_append_right _ (List.mem_append_right _ (List.mem_append_right _ (List.mem_append_right _ (List.mem_append_right _ (List.mem_append_right _ (List.mem_append_right _ (List.mem_append_right _ (List.mem_append_right _ (List.mem_append_right _ (List.mem_append_left _ h))))))))))))))))))))))))))))))))
theorem wsL_c22 : ∀ w ∈ wsL_law_r22, w ∈ wsL_law := fun _ h => List.mem_append_left _ (List.mem_append_left _ (List.mem_append_left _ (List.mem_append_left _ (List.mem_append_left _ (List.mem_append_left _ (List.mem_append_left _ (List.mem_append_left _ (List.mem_append_left _ (List.mem_append_left _ (List.mem_append_left _ (List.mem_append_left _ (List.mem_append_right _ (List.mem_append_right _ (List.mem_append_right _ (List.mem_append_right _ (List.mem_append_right _ (List.mem_append_right _ (List.mem_append_right _ (List.mem_append_right _ (List.mem_append_right _ (List.mem_append_right _ (List.mem_append_right _ (List.mem_append_right _ (List.mem_append_right _ (List.mem_append_right _ (List.mem_append_right _ (List.mem_append_right _ (List.mem_append_right _ (List.mem_append_right _ (List.mem_append_right _ (List.mem_append_right _ (List.mem_append_right _ (List.mem_append_left _ h)))))))))))))))))))))))))))))))))
theorem wsL_c23 : ∀ w ∈ wsL_law_r23, w ∈ wsL_law := fun _ h => List.mem_append_left _ (List.mem_append_left _ (List.mem_append_left _ (List.mem_append_left _ (List.mem_append_left _ (List.mem_append_left _ (List.mem_append_left _ (List.mem_append_left _ (List.mem_append_left _ (List.mem_append_left _ (List.mem_append_left _ (List.mem_append_left _ (List.mem_append_right _ (List.mem_append_right _ (List.mem_append_right _ (List.mem_append_right _ (List.mem_append_right _ (List.mem_append_right _ (List.mem_append_right _ (List.mem_append_right _ (List.mem_append_right _ (List.mem_append_right _ (List.mem_append_right _ (List.mem_append_right _ (List.mem_append_right _ (List.mem_append_right _ (List.mem_append_right _ (List.mem_append_right _ (List.mem_append_right _ (List.mem_append_right _ (List.mem_append_right _ (List.mem_append_right _ (List.mem_append_right _ (List.mem_append_right _ (List.mem_append_left _ h))))))))))))))))))))))))))))))))))
theorem wsL_c24 : ∀ w ∈ wsL_law_r24, w ∈ wsL_law := fun _ h => List.mem_append_left _ (List.mem_append_left _ (List.mem_append_left _ (List.mem_append_left _ (List.mem_append_left _ (List.mem_append_left _ (List.mem_append_left _ (List.mem_append_left _ (List.mem_append_left _ (List.mem_append_left _ (List.mem_append_left _ (List.mem_append_left _ (List.mem_append_right _ (List.mem_append_right _ (List.mem_append_right _ (List.mem_append_right _ (List.mem_append_right _ (List.mem_append_right _ (List.mem_append_right _ (List.mem_append_right _ (List.mem_append_right _ (List.mem_append_right _ (List.mem_append_right _ (List.mem_append_right _ (List.mem_append_right _ (List.mem_append_right _ (List.mem_append_right _ (List.mem_append_right _ (List.mem_append_right _ (List.mem_append_right _ (List.mem_append_right _ (List.mem_append_right _ (List.mem_append_right _ (List.mem_append_right _ (List.mem_append_right _ (List.mem_append_left _ h)))))))))))))))))))))))))))))))))))
theorem wsL_c25 : ∀ w ∈ wsL_law_r25, w ∈ wsL_law := fun _ h => List.mem_append_left _ (List.mem_append_left _ (List.mem_append_left _ (List.mem_append_left _ (List.mem_append_left _ (List.mem_append_left _ (List.mem_append_left _ (List.mem_append_left _ (List.mem_append_left _ (List.mem_append_left _ (List.mem_append_left _ (List.mem_append_left _ (List.mem_append_right _ (List.mem_append_right _ (List.mem_append_right _ (List.mem_append_right _ (List.mem_append_right _ (List.mem_append_right _ (List.mem_append_right _ (List.mem_append_right _ (List.mem_append_right _ (List.mem_append_right _ (List.mem_append_right _ (List.mem_append_right _ (List.mem_append_right _ (List.mem_append_right _ (List.mem_append_right _ (List.mem_append_right _ (List.mem_append_right _ (List.mem_append_right _ (List.mem_append_right _ (List.mem_append_right _ (List.mem_append_right _ (List.mem_append_right _ (List.mem_append_right _ (List.mem_append_right _ (List.mem_append_left _ h))))))))))))))))))))))))))))))))))))
theorem wsL_c26 : ∀ w ∈ wsL_law_r26, w ∈ wsL_law := fun _ h => List.mem_append_left _ (List.mem_append_left _ (List.mem_append_left _ (List.mem_append_left _ (List.mem_append_left _ (List.mem_append_left _ (List.mem_append_left _ (List.mem_append_left _ (List.mem_append_left _ (List.mem_append_left _ (List.mem_append_left _ (List.mem_append_left _ (List.mem_append_right _ (List.mem_append_right _ (List.mem_append_right _ (List.mem_append_right _ (List.mem_append_right _ (List.mem_append_right _ (List.mem_append_right _ (List.mem_append_right _ (List.mem_append_right _ (List.mem_append_right _ (List.mem_append_right _ (List.mem_append_right _ (List.mem_append_right _ (List.mem_append_right _ (List.mem_append_right _ (List.mem_append_right _ (List.mem_append_right _ (List.mem_append_right _ (List.mem_append_right _ (List.mem_append_right _ (List.mem_append_right _ (List.mem_append_right _ (List.mem_append_right _ (List.mem_append_right _ (List.mem_append_right _ (List.mem_append_left _ h)))))))))))))))))))))))))))))))))))))
theorem wsL_c27 : ∀ w ∈ wsL_law_r27, w ∈ wsL_law := fun _ h => List.mem_append_left _ (List.mem_append_left _ (List.mem_append_left _ (List.mem_append_left _ (List.mem_append_left _ (List.mem_append_left _ (List.mem_append_left _ (List.mem_append_left _ (List.mem_append_left _ (List.mem_append_left _ (List.mem_append_left _ (List.mem_append_left _ (List.mem_append_right _ (List.mem_append_right _ (List.mem_append_right _ (List.mem_append_right _ (List.mem_append_right _ (List.mem_append_right _ (List.mem_append_right _ (List.mem_append_right _ (List.mem_append_right _ (List.mem_append_right _ (List.mem_append_right _ (List.mem_append_right _ (List.mem_append_right _ (List.mem_append_right _ (List.mem_append_right _ (List.mem_append_right _ (List.mem_append_right _ (List.mem_append_right _ (List.mem_append_right _ (List.mem_append_right _ (List.mem_append_right _ (List.mem_append_right _ (List.mem_append_right _ (List.mem_append_right _ (List.mem_append_right _ (List.mem_append_right _ (List.mem_append_left _ h))))))))))))))))))))))))))))))))))))))
theorem wsL_c28 : ∀ w ∈ wsL_law_r28, w ∈ wsL_law := fun _ h => List.mem_append_left _ (List.mem_append_left _ (List.mem_append_left _ (List.mem_append_left _ (List.mem_append_left _ (List.mem_append_left _ (List.mem_append_left _ (List.mem_append_left _ (List.mem_append_left _ (List.mem_append_left _ (List.mem_append_left _ (List.mem_append_left _ (List.mem_append_right _ (List.mem_append_right _ (List.mem_append_right _ (List.mem_append_right _ (List.mem_append_right _ (List.mem_append_right _ (List.mem_append_right _ (List.mem_append_right _ (List.mem_append_right _ (List.mem_append_right _ (List.mem_append_right _ (List.mem_append_right _ (List.mem_append_right _ (List.mem_append_right _ (List.mem_append_right _ (List.mem_append_right _ (List.mem_append_right _ (List.mem_append_right _ (List.mem_append_right _ (List.mem_append_right _ (List.mem_append_right _ (List.mem_append_right _ (List.mem_append_right _ (List.mem_append_right _ (List.mem_append_right _ (List.mem_append_right _ (List.mem_append_right _ (List.mem_append_left _ h)))))))))))))))))))))))))))))))))))))))
theorem wsL_c29 : ∀ w ∈ wsL_law_r29, w ∈ wsL_law := fun _ h => List.mem_append_left _ (List.mem_append_left _ (List.mem_append_left _ (List.mem_append_left _ (List.mem_append_left _ (List.mem_append_left _ (List.mem_append_left _ (List.mem_append_left _ (List.mem_append_left _ (List.mem_append_left _ (List.mem_append_left _ (List.mem_append_left _ (List.mem_append_right _ (List.mem_append_right _ (List.mem_append_right _ (List.mem_append_right _ (List.mem_append_right _ (List.mem_append_right _ (List.mem_append_right _ (List.mem_append_right _ (List.mem_append_right _ (List.mem_append_right _ (List.mem_append_right _ (List.mem_append_right _ (List.mem_append_right _ (List.mem_append_right _ (List.mem_append_right _ (List.mem_append_right _ (List.mem_append_right _ (List.mem_append_right _ (List.mem_append_right _ (List.mem_append_right _ (List.mem_append_right _ (List.mem_append_right _ (List.mem_append_right _ (List.mem_append_right _ (List.mem_append_right _ (List.mem_append_right _ (List.mem_append_right _ (List.mem_append_right _ (List.mem_append_left _ h))))))))))))))))))))))))))))))))))))))))
theorem wsL_c30 : ∀ w ∈ wsL_law_r30, w ∈ wsL_law := fun _ h => List.mem_append_left _ (List.mem_append_left _ (List.mem_append_left _ (List.mem_append_left _ (List.mem_append_left _ (List.mem_append_left _ (List.mem_append_left _ (List.mem_append_left _ (List.mem_append_left _ (List.mem_append_left _ (List.mem_append_left _ (List.mem_append_left _ (List.mem_append_right _ (List.mem_append_right _ (List.mem_append_right _ (List.mem_append_right _ (List.mem_append_right _ (List.mem_append_right _ (List.mem_append_right _ (List.mem_append_right _ (List.mem_append_right _ (List.mem_append_right _ (List.mem_append_right _ (List.mem_append_right _ (List.mem_append_right _ (List.mem_append_right _ (List.mem_append_right _ (List.mem_append_right _ (List.mem_append_right _ (List.mem_append_right _ (List.mem_append_right _ (List.mem_append_right _ (List.mem_append_right _ (List.mem_append_right _ (List.mem_append_right _ (List.mem_append_right _ (List.mem_append_right _ (List.mem_append_right _ (List.mem_append_right _ (List.mem_append_right _ (List.mem_append_right _ (List.mem_append_left _ h)))))))))))))))))))))))))))))))))))))))))
theorem wsL_c31 : ∀ w ∈ wsL_law_r31, w ∈ wsL_law := fun _ h => List.mem_append_left _ (List.mem_append_left _ (List.mem_append_left _ (List.mem_append_left _ (List.mem_append_left _ (List.mem_append_left _ (List.mem_append_left _ (List.mem_append_left _ (List.mem_append_left _ (List.mem_append_left _ (List.mem_append_left _ (List.mem_append_left _ (List.mem_append_right _ (List.mem_append_right _ (List.mem_append_right _ (List.mem_append_right _ (List.mem_append_right _ (List.mem_append_right _ (List.mem_append_right _ (List.mem_append_right _ (List.mem_append_right _ (List.mem_append_right _ (List.mem_append_right _ (List.mem_append_right _ (List.mem_append_right _ (List.mem_append_right _ (List.mem_append_right _ (List.mem_append_right _ (List.mem_append_right _ (List.mem_append_right _ (List.mem_append_right _ (List.mem_append_right _ (List.mem_append_right _ (List.mem_append_right _ (List.mem_append_right _ (List.mem_append_right _ (List.mem_append_right _ (List.mem_append_right _ (List.mem_append_right _ (List.mem_append_right _ (List.mem_append_right _ (List.mem_append_right _ (List.mem_append_left _ h))))))))))))))))))))))))))))))))))))))))))
theorem wsL_c32 : ∀ w ∈ wsL_law_r32, w ∈ wsL_law := fun _ h => List.mem_append_left _ (List.mem_append_left _ (List.mem_append_left _ (List.mem_append_left _ (List.mem_append_left _ (List.mem_append_left _ (List.mem_append_left _ (List.mem_append_left _ (List.mem_append_left _ (List.mem_append_left _ (List.mem_append_left _ (List.mem_append_left _ (List.mem_append_right _ (List.mem_append_right _ (List.mem_append_right _ (List.mem_append_right _ (List.mem_append_right _ (List.mem_append_right _ (List.mem_append_right _ (List.mem_append_right _ (List.mem_append_right _ (List.mem_append_right _ (List.mem_append_right _ (List.mem_append_right _ (List.mem_append_right _ (List.mem_append_right _ (List.mem_append_right _ (List.mem_append_right _ (List.mem_append_right _ (List.mem_append_right _ (List.mem_append_right _ (List.mem_append_right _ (List.mem_append_right _ (List.mem_append_right _ (List.mem_append_right _ (List.mem_append_right _ (List.mem_append_right _ (List.mem_append_right _ (List.mem_append_right _ (List.mem_append_right _ (List.mem_append_right _ (List.mem_append_right _ (List.mem_append_right _ (List.mem_append_left _ h)))))))))))))))))))))))))))))))))))))))))))
theorem wsL_c33 : ∀ w ∈ wsL_law_r33, w ∈ wsL_law := fun _ h => List.mem_append_left _ (List.mem_append_left _ (List.mem_append_left _ (List.mem_append_left _ (List.mem_append_left _ (List.mem_append_left _ (List.mem_append_left _ (List.mem_append_left _ (List.mem_append_left _ (List.mem_append_left _ (List.mem_append_left _ (List.mem_append_left _ (List.mem_append_right _ (List.mem_append_right _ (List.mem_append_right _ (List.mem_append_right _ (List.mem_append_right _ (List.mem_append_right _ (List.mem_append_right _ (List.mem_append_right _ (List.mem_append_right _ (List.mem_append_right _ (List.mem_append_right _ (List.mem_append_right _ (List.mem_append_right _ (List.mem_append_right _ (List.mem_append_right _ (List.mem_append_right _ (List.mem_append_right _ (List.mem_append_right _ (List.mem_append_right _ (List.mem_append_right _ (List.mem_append_right _ (List.mem_append_right _ (List.mem_append_right _ (List.mem_append_right _ (List.mem_append_right _ (List.mem_append_right _ (List.mem_append_right _ (List.mem_append_right _ (List.mem_append_right _ (List.mem_append_right _ (List.mem_append_right _ (List.mem_append_right _ (List.mem_append_left _ h))))))))))))))))))))))))))))))))))))))))))))
theorem wsL_c34 : ∀ w ∈ wsL_law_r34, w ∈ wsL_law := fun _ h => List.mem_append_left _ (List.mem_append_left _ (List.mem_append_left _ (List.mem_append_left _ (List.mem_append_left _ (List.mem_append_left _ (List.mem_append_left _ (List.mem_append_left _ (List.mem_append_left _ (List.mem_append_left _ (List.mem_append_left _ (List.mem_append_left _ (List.mem_append_right _ (List.mem_append_right _ (List.mem_append_right _ (List.mem_append_right _ (List.mem_append_right _ (List.mem_append_right _ (List.mem_append_right _ (List.mem_append_right _ (List.mem_append_right _ (List.mem_append_right _ (List.mem_append_right _ (List.mem_append_right _ (List.mem_append_right _ (List.mem_append_right _ (List.mem_append_right _ (List.mem_append_right _ (List.mem_append_right _ (List.mem_append_right _ (List.mem_append_right _ (List.mem_append_right _ (List.mem_append_right _ (List.mem_append_right _ (List.mem_append_right _ (List.mem_append_right _ (List.mem_append_right _ (List.mem_append_right _ (List.mem_append_right _ (List.mem_append_right _ (List.mem_append_right _ (List.mem_append_right _ (List.mem_append_right _ (List.mem_append_right _ (List.mem_append_right _ (List.mem_append_left _ h)))))))))))))))))))))))))))))))))))))))))))))
theorem wsL_c35 : ∀ w ∈ wsL_law_r35, w ∈ wsL_law := fun _ h => List.mem_append_left _ (List.mem_append_left _ (List.mem_append_left _ (List.mem_append_left _ (List.mem_append_left _ (List.mem_append_left _ (List.mem_append_left _ (List.mem_append_left _ (List.mem_append_left _ (List.mem_append_left _ (List.mem_append_left _ (List.mem_append_left _ (List.mem_append_right _ (List.mem_append_right _ (List.mem_append_right _ (List.mem_append_right _ (List.mem_append_right _ (List.mem_append_right _ (List.mem_append_right _ (List.mem_append_right _ (List.mem_append_right _ (List.mem_append_right _ (List.mem_append_right _ (List.mem_append_right _ (List.mem_append_right _ (List.mem_append_right _ (List.mem_append_right _ (List.mem_append_right _ (List.mem_append_right _ (List.mem_append_right _ (List.mem_append_right _ (List.mem_append_right _ (List.mem_append_right _ (List.mem_append_right _ (List.mem_append_right _ (List.mem_append_right _ (List.mem_append_right _ (List.mem_append_right _ (List.mem_append_right _ (List.mem_append_right _ (List.mem_append_right _ (List.mem_append_right _ (List.mem_append_right _ (List.mem_append_right _ (List.mem_append_right _ (List.mem_append_right _ (List.mem_append_left _ h))))))))))))))))))))))))))))))))))))))))))))))
theorem wsL_c36 : ∀ w ∈ wsL_law_r36, w ∈ wsL_law := fun _ h => List.mem_append_left _ (List.mem_append_left _ (List.mem_append_left _ (List.mem_append_left _ (List.mem_append_left _ (List.mem_append_left _ (List.mem_append_left _ (List.mem_append_left _ (List.mem_append_left _ (List.mem_append_left _ (List.mem_append_left _ (List.mem_append_left _ (List.mem_append_right _ (List.mem_append_right _ (List.mem_append_right _ (List.mem_append_right _ (List.mem_append_right _ (List.mem_append_right _ (List.mem_append_right _ (List.mem_append_right _ (List.mem_append_right _ (List.mem_append_right _ (List.mem_append_right _ (List.mem_append_right _ (List.mem_append_right _ (List.mem_append_right _ (List.mem_append_right _ (List.mem_append_right _ (List.mem_append_right _ (List.mem_append_right _ (List.mem_append_right _ (List.mem_append_right _ (List.mem_append_right _ (List.mem_append_right _ (List.mem_append_right _ (List.mem_append_right _ (List.mem_append_right _ (List.mem_append_right _ (List.mem_append_right _ (List.mem_append_right _ (List.mem_append_right _ (List.mem_append_right _ (List.mem_append_right _ (List.mem_append_right _ (List.mem_append_right _ (List.mem_append_right _ (List.mem_append_right _ (List.mem_append_left _ h)))))))))))))))))))))))))))))))))))))))))))))))
theorem wsL_c37 : ∀ w ∈ wsL_law_r37, w ∈ wsL_law := fun _ h => List.mem_append_left _ (List.mem_append_left _ (List.mem_append_left _ (List.mem_append_left _ (List.mem_append_left _ (List.mem_append_left _ (List.mem_append_left _ (List.mem_append_left _ (List.mem_append_left _ (List.mem_append_left _ (List.mem_append_left _ (List.mem_append_left _ (List.mem_append_right _ (List.mem_append_right _ (List.mem_append_right _ (List.mem_append_right _ (List.mem_append_right _ (List.mem_append_right _ (List.mem_append_right _ (List.mem_append_right _ (List.mem_append_right _ (List.mem_append_right _ (List.mem_append_right _ (List.mem_append_right _ (List.mem_append_right _ (List.mem_append_right _ (List.mem_append_right _ (List.mem_append_right _ (List.mem_append_right _ (List.mem_append_right _ (List.mem_append_right _ (List.mem_append_right _ (List.mem_append_right _ (List.mem_append_right _ (List.mem_append_right _ (List.mem_append_right _ (List.mem_append_right _ (List.mem_append_right _ (List.mem_append_right _ (List.mem_append_right _ (List.mem_append_right _ (List.mem_append_right _ (List.mem_append_right _ (List.mem_append_right _ (List.mem_append_right _ (List.mem_append_right _ (List.mem_append_right _ (List.mem_append_right _ (List.mem_append_left _ h))))))))))))))))))))))))))))))))))))))))))))))))
theorem wsL_c38 : ∀ w ∈ wsL_law_r38, w ∈ wsL_law := fun _ h => List.mem_append_left _ (List.mem_append_left _ (List.mem_append_left _ (List.mem_append_left _ (List.mem_append_left _ (List.mem_append_left _ (List.mem_append_left _ (List.mem_append_left _ (List.mem_append_left _ (List.mem_append_left _ (List.mem_append_left _ (List.mem_append_left _ (List.mem_append_right _ (List.mem_append_right _ (List.mem_append_right _ (List.mem_append_right _ (List.mem_append_right _ (List.mem_append_right _ (List.mem_append_right _ (List.mem_append_right _ (List.mem_append_right _ (List.mem_append_right _ (List.mem_append_right _ (List.mem_append_right _ (List.mem_append_right _ (List.mem_append_right _ (List.mem_append_right _ (List.mem_append_right _ (List.mem_append_right _ (List.mem_append_right _ (List.mem_append_right _ (List.mem_append_right _ (List.mem_append_right _ (List.mem_append_right _ (List.mem_append_right _ (List.mem_append_right _ (List.mem_append_right _ (List.mem_append_right _ (List.mem_append_right _ (List.mem_append_right _ (List.mem_append_right _ (List.mem_append_right _ (List.mem_append_right _ (List.mem_append_right _ (List.mem_append_right _ (List.mem_append_right _ (List.mem_append_right _ (List.mem_append_right _ (List.mem_append_right _ (List.mem_append_left _ h)))))))))))))))))))))))))))))))))))))))))))))))))
theorem wsL_c39 : ∀ w ∈ wsL_law_r39, w ∈ wsL_law := fun _ h => List.mem_append_left _ (List.mem_append_left _ (List.mem_append_left _ (List.mem_append_left _ (List.mem_append_left _ (List.mem_append_left _ (List.mem_append_left _ (List.mem_append_left _ (List.mem_append_left _ (List.mem_append_left _ (List.mem_append_left _ (List.mem_append_left _ (List.mem_append_right _ (List.mem_append_right _ (List.mem_append_right _ (List.mem_append_right _ (List.mem_append_right _ (List.mem_append_right _ (List.mem_append_right _ (List.mem_append_right _ (List.mem_append_right _ (List.mem_append_right _ (List.mem_append_right _ (List.mem_append_right _ (List.mem_append_right _ (List.mem_append_right _ (List.mem_append_right _ (List.mem_append_right _ (List.mem_append_right _ (List.mem_append_right _ (List.mem_append_right _ (List.mem_append_right _ (List.mem_append_right _ (List.mem_append_right _ (List.mem_append_right _ (List.mem_append_right _ (List.mem_append_right _ (List.mem_append_right _ (List.mem_append_right _ (List.mem_append_right _ (List.mem_append_right _ (List.mem_append_right _ (List.mem_append_right _ (List.mem_append_right _ (List.mem_append_right _ (List.mem_append_right _ (List.mem_append_right _ (List.mem_append_right _ (List.mem_append_right _ (List.mem_append_right _ (List.mem_append_left _ h))))))))))))))))))))))))))))))))))))))))))))))))))
theorem wsL_c40 : ∀ w ∈ wsL_law_r40, w ∈ wsL_law := fun _ h => List.mem_append_left _ (List.mem_append_left _ (List.mem_append_left _ (List.mem_append_left _ (List.mem_append_left _ (List.mem_append_left _ (List.mem_append_left _ (List.mem_append_left _ (List.mem_append_left _ (List.mem_append_left _ (List.mem_append_left _ (List.mem_append_left _ (List.mem_append_right _ (List.mem_append_right _ (List.mem_append_right _ (List.mem_append_right _ (List.mem_append_right _ (List.mem_append_right _ (List.mem_append_right _ (List.mem_append_right _ (List.mem_append_right _ (List.mem_append_right _ (List.mem_append_right _ (List.mem_append_right _ (List.mem_append_right _ (List.mem_append_right _ (List.mem_append_right _ (List.mem_append_right _ (List.mem_append_right _ (List.mem_append_right _ (List.mem_append_right _ (List.mem_append_right _ (List.mem_append_right _ (List.mem_append_right _ (List.mem_append_right _ (List.mem_append_right _ (List.mem_append_right _ (List.mem_append_right _ (List.mem_append_right _ (List.mem_append_right _ (List.mem_append_right _ (List.mem_append_right _ (List.mem_append_right _ (List.mem_append_right _ (List.mem_append_right _ (List.mem_append_right _ (List.mem_append_right _ (List.mem_append_right _ (List.mem_append_right _ (List.mem_append_right _ (List.mem_append_right _ (h)))))))))))))))))))))))))))))))))))))))))))))))))))
set_option maxRecDepth 20000 in
theorem wsL_good : wsL_law.all goodWord = true := by decide +kernel
