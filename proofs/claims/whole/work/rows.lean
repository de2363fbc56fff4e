section
-- ===== PART A: goes FIRST, ahead of the names: the tables' words, and 'selects' of the private methods out of them =====
/-- a private method of a class that the tables say can be made, by its rows of tables_1 -/
def lw_okq (q : MethodName × Nat) : Prop := (q.1.cls ≠ "java/lang/invoke/MethodHandle" ∧ q.1.cls ≠ "java/lang/invoke/VarHandle") ∧ Cond.instantiable q.1.cls q.2 ∈ tables_1 ∧ Cond.privateMethod q.1 ∈ tables_1 ∧ Cond.instanceMethod q.1 ∈ tables_1
theorem lw_p0 : lw_okq (⟨"PaperRounds$Streets", "putInOrder", "(I)V"⟩, 9) := ⟨⟨by decide +kernel, by decide +kernel⟩, List.mem_of_getElem? (i := 28) (by decide +kernel), List.mem_of_getElem? (i := 446) (by decide +kernel), List.mem_of_getElem? (i := 447) (by decide +kernel)⟩
theorem lw_p1 : lw_okq (⟨"PaperRounds", "settled", "(I)I"⟩, 5) := ⟨⟨by decide +kernel, by decide +kernel⟩, List.mem_of_getElem? (i := 14) (by decide +kernel), List.mem_of_getElem? (i := 450) (by decide +kernel), List.mem_of_getElem? (i := 451) (by decide +kernel)⟩
theorem lw_p2 : lw_okq (⟨"PaperRounds$Houses", "makeOrder", "(LPaperRounds$Streets;)V"⟩, 15) := ⟨⟨by decide +kernel, by decide +kernel⟩, List.mem_of_getElem? (i := 76) (by decide +kernel), List.mem_of_getElem? (i := 470) (by decide +kernel), List.mem_of_getElem? (i := 471) (by decide +kernel)⟩
theorem lw_p3 : lw_okq (⟨"PaperRounds$Walk", "clear", "()V"⟩, 6) := ⟨⟨by decide +kernel, by decide +kernel⟩, List.mem_of_getElem? (i := 288) (by decide +kernel), List.mem_of_getElem? (i := 568) (by decide +kernel), List.mem_of_getElem? (i := 569) (by decide +kernel)⟩
theorem lw_p4 : lw_okq (⟨"PaperRounds$Walk", "endTrip", "(LPaperRounds$Streets;I)V"⟩, 6) := ⟨⟨by decide +kernel, by decide +kernel⟩, List.mem_of_getElem? (i := 288) (by decide +kernel), List.mem_of_getElem? (i := 583) (by decide +kernel), List.mem_of_getElem? (i := 584) (by decide +kernel)⟩
theorem lw_p5 : lw_okq (⟨"PaperRounds$Town", "bringPapers", "()V"⟩, 8) := ⟨⟨by decide +kernel, by decide +kernel⟩, List.mem_of_getElem? (i := 22) (by decide +kernel), List.mem_of_getElem? (i := 595) (by decide +kernel), List.mem_of_getElem? (i := 596) (by decide +kernel)⟩
theorem lw_p6 : lw_okq (⟨"PaperRounds$Town", "fateOfPapers", "(I)I"⟩, 8) := ⟨⟨by decide +kernel, by decide +kernel⟩, List.mem_of_getElem? (i := 22) (by decide +kernel), List.mem_of_getElem? (i := 599) (by decide +kernel), List.mem_of_getElem? (i := 600) (by decide +kernel)⟩
theorem lw_p7 : lw_okq (⟨"PaperRounds$Town", "book", "(III)V"⟩, 8) := ⟨⟨by decide +kernel, by decide +kernel⟩, List.mem_of_getElem? (i := 22) (by decide +kernel), List.mem_of_getElem? (i := 606) (by decide +kernel), List.mem_of_getElem? (i := 607) (by decide +kernel)⟩
theorem lw_p8 : lw_okq (⟨"PaperRounds$Town", "payTips", "()V"⟩, 8) := ⟨⟨by decide +kernel, by decide +kernel⟩, List.mem_of_getElem? (i := 22) (by decide +kernel), List.mem_of_getElem? (i := 614) (by decide +kernel), List.mem_of_getElem? (i := 615) (by decide +kernel)⟩
theorem lw_p9 : lw_okq (⟨"PaperRounds$Text", "readNumber", "()I"⟩, 5) := ⟨⟨by decide +kernel, by decide +kernel⟩, List.mem_of_getElem? (i := 319) (by decide +kernel), List.mem_of_getElem? (i := 759) (by decide +kernel), List.mem_of_getElem? (i := 760) (by decide +kernel)⟩
theorem lw_p10 : lw_okq (⟨"PaperRounds$Text", "readSign", "(C)Z"⟩, 5) := ⟨⟨by decide +kernel, by decide +kernel⟩, List.mem_of_getElem? (i := 319) (by decide +kernel), List.mem_of_getElem? (i := 763) (by decide +kernel), List.mem_of_getElem? (i := 764) (by decide +kernel)⟩
theorem lw_p11 : lw_okq (⟨"PaperRounds$Trial", "answerOf", "(C[ILPaperRounds$Walk;)I"⟩, 5) := ⟨⟨by decide +kernel, by decide +kernel⟩, List.mem_of_getElem? (i := 347) (by decide +kernel), List.mem_of_getElem? (i := 767) (by decide +kernel), List.mem_of_getElem? (i := 768) (by decide +kernel)⟩
theorem lw_p12 : lw_okq (⟨"PaperRoundsModel", "isCorner", "(I)Z"⟩, 20) := ⟨⟨by decide +kernel, by decide +kernel⟩, List.mem_of_getElem? (i := 781) (by decide +kernel), List.mem_of_getElem? (i := 852) (by decide +kernel), List.mem_of_getElem? (i := 853) (by decide +kernel)⟩
theorem lw_p13 : lw_okq (⟨"PaperRoundsModel", "notes", "()V"⟩, 20) := ⟨⟨by decide +kernel, by decide +kernel⟩, List.mem_of_getElem? (i := 781) (by decide +kernel), List.mem_of_getElem? (i := 859) (by decide +kernel), List.mem_of_getElem? (i := 860) (by decide +kernel)⟩
theorem lw_p14 : lw_okq (⟨"PaperRoundsModel", "ends", "(I)I"⟩, 20) := ⟨⟨by decide +kernel, by decide +kernel⟩, List.mem_of_getElem? (i := 781) (by decide +kernel), List.mem_of_getElem? (i := 866) (by decide +kernel), List.mem_of_getElem? (i := 867) (by decide +kernel)⟩
theorem lw_p15 : lw_okq (⟨"PaperRoundsModel", "lays", "(III)V"⟩, 20) := ⟨⟨by decide +kernel, by decide +kernel⟩, List.mem_of_getElem? (i := 781) (by decide +kernel), List.mem_of_getElem? (i := 874) (by decide +kernel), List.mem_of_getElem? (i := 875) (by decide +kernel)⟩
def lw_privs_1 : List (MethodName × Nat) := [(⟨"PaperRounds$Streets", "putInOrder", "(I)V"⟩, 9), (⟨"PaperRounds", "settled", "(I)I"⟩, 5), (⟨"PaperRounds$Houses", "makeOrder", "(LPaperRounds$Streets;)V"⟩, 15), (⟨"PaperRounds$Walk", "clear", "()V"⟩, 6), (⟨"PaperRounds$Walk", "endTrip", "(LPaperRounds$Streets;I)V"⟩, 6), (⟨"PaperRounds$Town", "bringPapers", "()V"⟩, 8), (⟨"PaperRounds$Town", "fateOfPapers", "(I)I"⟩, 8), (⟨"PaperRounds$Town", "book", "(III)V"⟩, 8), (⟨"PaperRounds$Town", "payTips", "()V"⟩, 8), (⟨"PaperRounds$Text", "readNumber", "()I"⟩, 5), (⟨"PaperRounds$Text", "readSign", "(C)Z"⟩, 5), (⟨"PaperRounds$Trial", "answerOf", "(C[ILPaperRounds$Walk;)I"⟩, 5), (⟨"PaperRoundsModel", "isCorner", "(I)Z"⟩, 20), (⟨"PaperRoundsModel", "notes", "()V"⟩, 20), (⟨"PaperRoundsModel", "ends", "(I)I"⟩, 20), (⟨"PaperRoundsModel", "lays", "(III)V"⟩, 20)]
theorem lw_r1 : ∀ q ∈ lw_privs_1, lw_okq q := List.forall_mem_cons.mpr ⟨lw_p0, List.forall_mem_cons.mpr ⟨lw_p1, List.forall_mem_cons.mpr ⟨lw_p2, List.forall_mem_cons.mpr ⟨lw_p3, List.forall_mem_cons.mpr ⟨lw_p4, List.forall_mem_cons.mpr ⟨lw_p5, List.forall_mem_cons.mpr ⟨lw_p6, List.forall_mem_cons.mpr ⟨lw_p7, List.forall_mem_cons.mpr ⟨lw_p8, List.forall_mem_cons.mpr ⟨lw_p9, List.forall_mem_cons.mpr ⟨lw_p10, List.forall_mem_cons.mpr ⟨lw_p11, List.forall_mem_cons.mpr ⟨lw_p12, List.forall_mem_cons.mpr ⟨lw_p13, List.forall_mem_cons.mpr ⟨lw_p14, List.forall_mem_cons.mpr ⟨lw_p15, fun _ h => absurd h List.not_mem_nil⟩⟩⟩⟩⟩⟩⟩⟩⟩⟩⟩⟩⟩⟩⟩⟩
theorem lw_p16 : lw_okq (⟨"PaperRoundsModel", "isHouse", "(I)Z"⟩, 20) := ⟨⟨by decide +kernel, by decide +kernel⟩, List.mem_of_getElem? (i := 781) (by decide +kernel), List.mem_of_getElem? (i := 882) (by decide +kernel), List.mem_of_getElem? (i := 883) (by decide +kernel)⟩
theorem lw_p17 : lw_okq (⟨"PaperRoundsModel", "of", "(II)I"⟩, 20) := ⟨⟨by decide +kernel, by decide +kernel⟩, List.mem_of_getElem? (i := 781) (by decide +kernel), List.mem_of_getElem? (i := 886) (by decide +kernel), List.mem_of_getElem? (i := 887) (by decide +kernel)⟩
theorem lw_p18 : lw_okq (⟨"PaperRoundsModel", "pauses", "(III)I"⟩, 20) := ⟨⟨by decide +kernel, by decide +kernel⟩, List.mem_of_getElem? (i := 781) (by decide +kernel), List.mem_of_getElem? (i := 894) (by decide +kernel), List.mem_of_getElem? (i := 895) (by decide +kernel)⟩
theorem lw_p19 : lw_okq (⟨"PaperRoundsModel", "addsCarrier", "(III)V"⟩, 20) := ⟨⟨by decide +kernel, by decide +kernel⟩, List.mem_of_getElem? (i := 781) (by decide +kernel), List.mem_of_getElem? (i := 902) (by decide +kernel), List.mem_of_getElem? (i := 903) (by decide +kernel)⟩
theorem lw_p20 : lw_okq (⟨"PaperRoundsModel", "gives", "(II)I"⟩, 20) := ⟨⟨by decide +kernel, by decide +kernel⟩, List.mem_of_getElem? (i := 781) (by decide +kernel), List.mem_of_getElem? (i := 910) (by decide +kernel), List.mem_of_getElem? (i := 911) (by decide +kernel)⟩
theorem lw_p21 : lw_okq (⟨"PaperRoundsModel", "isCarrier", "(I)Z"⟩, 20) := ⟨⟨by decide +kernel, by decide +kernel⟩, List.mem_of_getElem? (i := 781) (by decide +kernel), List.mem_of_getElem? (i := 914) (by decide +kernel), List.mem_of_getElem? (i := 915) (by decide +kernel)⟩
theorem lw_p22 : lw_okq (⟨"PaperRoundsModel", "canReach", "(II)Z"⟩, 20) := ⟨⟨by decide +kernel, by decide +kernel⟩, List.mem_of_getElem? (i := 781) (by decide +kernel), List.mem_of_getElem? (i := 918) (by decide +kernel), List.mem_of_getElem? (i := 919) (by decide +kernel)⟩
theorem lw_p23 : lw_okq (⟨"PaperRoundsModel", "ofCarrier", "(II)I"⟩, 20) := ⟨⟨by decide +kernel, by decide +kernel⟩, List.mem_of_getElem? (i := 781) (by decide +kernel), List.mem_of_getElem? (i := 922) (by decide +kernel), List.mem_of_getElem? (i := 923) (by decide +kernel)⟩
theorem lw_p24 : lw_okq (⟨"PaperRoundsModel", "cartsCome", "(I)Z"⟩, 20) := ⟨⟨by decide +kernel, by decide +kernel⟩, List.mem_of_getElem? (i := 781) (by decide +kernel), List.mem_of_getElem? (i := 926) (by decide +kernel), List.mem_of_getElem? (i := 927) (by decide +kernel)⟩
theorem lw_p25 : lw_okq (⟨"PaperRoundsModel", "ofCorner", "(II)I"⟩, 20) := ⟨⟨by decide +kernel, by decide +kernel⟩, List.mem_of_getElem? (i := 781) (by decide +kernel), List.mem_of_getElem? (i := 930) (by decide +kernel), List.mem_of_getElem? (i := 931) (by decide +kernel)⟩
theorem lw_p26 : lw_okq (⟨"PaperRoundsModel", "housesOf", "(I)I"⟩, 20) := ⟨⟨by decide +kernel, by decide +kernel⟩, List.mem_of_getElem? (i := 781) (by decide +kernel), List.mem_of_getElem? (i := 934) (by decide +kernel), List.mem_of_getElem? (i := 935) (by decide +kernel)⟩
theorem lw_p27 : lw_okq (⟨"PaperRoundsModel", "givesNone", "(I)I"⟩, 20) := ⟨⟨by decide +kernel, by decide +kernel⟩, List.mem_of_getElem? (i := 781) (by decide +kernel), List.mem_of_getElem? (i := 942) (by decide +kernel), List.mem_of_getElem? (i := 943) (by decide +kernel)⟩
theorem lw_p28 : lw_okq (⟨"PaperRoundsModel", "addsBiscuits", "(II)I"⟩, 20) := ⟨⟨by decide +kernel, by decide +kernel⟩, List.mem_of_getElem? (i := 781) (by decide +kernel), List.mem_of_getElem? (i := 950) (by decide +kernel), List.mem_of_getElem? (i := 951) (by decide +kernel)⟩
theorem lw_p29 : lw_okq (⟨"PaperRoundsModel", "daysGo", "(I)I"⟩, 20) := ⟨⟨by decide +kernel, by decide +kernel⟩, List.mem_of_getElem? (i := 781) (by decide +kernel), List.mem_of_getElem? (i := 962) (by decide +kernel), List.mem_of_getElem? (i := 963) (by decide +kernel)⟩
theorem lw_p30 : lw_okq (⟨"PaperRoundsModel", "dayGoes", "()I"⟩, 20) := ⟨⟨by decide +kernel, by decide +kernel⟩, List.mem_of_getElem? (i := 781) (by decide +kernel), List.mem_of_getElem? (i := 966) (by decide +kernel), List.mem_of_getElem? (i := 967) (by decide +kernel)⟩
theorem lw_p31 : lw_okq (⟨"PaperRoundsModel", "isPaused", "(II)Z"⟩, 20) := ⟨⟨by decide +kernel, by decide +kernel⟩, List.mem_of_getElem? (i := 781) (by decide +kernel), List.mem_of_getElem? (i := 970) (by decide +kernel), List.mem_of_getElem? (i := 971) (by decide +kernel)⟩
def lw_privs_2 : List (MethodName × Nat) := [(⟨"PaperRoundsModel", "isHouse", "(I)Z"⟩, 20), (⟨"PaperRoundsModel", "of", "(II)I"⟩, 20), (⟨"PaperRoundsModel", "pauses", "(III)I"⟩, 20), (⟨"PaperRoundsModel", "addsCarrier", "(III)V"⟩, 20), (⟨"PaperRoundsModel", "gives", "(II)I"⟩, 20), (⟨"PaperRoundsModel", "isCarrier", "(I)Z"⟩, 20), (⟨"PaperRoundsModel", "canReach", "(II)Z"⟩, 20), (⟨"PaperRoundsModel", "ofCarrier", "(II)I"⟩, 20), (⟨"PaperRoundsModel", "cartsCome", "(I)Z"⟩, 20), (⟨"PaperRoundsModel", "ofCorner", "(II)I"⟩, 20), (⟨"PaperRoundsModel", "housesOf", "(I)I"⟩, 20), (⟨"PaperRoundsModel", "givesNone", "(I)I"⟩, 20), (⟨"PaperRoundsModel", "addsBiscuits", "(II)I"⟩, 20), (⟨"PaperRoundsModel", "daysGo", "(I)I"⟩, 20), (⟨"PaperRoundsModel", "dayGoes", "()I"⟩, 20), (⟨"PaperRoundsModel", "isPaused", "(II)Z"⟩, 20)]
theorem lw_r2 : ∀ q ∈ lw_privs_2, lw_okq q := List.forall_mem_cons.mpr ⟨lw_p16, List.forall_mem_cons.mpr ⟨lw_p17, List.forall_mem_cons.mpr ⟨lw_p18, List.forall_mem_cons.mpr ⟨lw_p19, List.forall_mem_cons.mpr ⟨lw_p20, List.forall_mem_cons.mpr ⟨lw_p21, List.forall_mem_cons.mpr ⟨lw_p22, List.forall_mem_cons.mpr ⟨lw_p23, List.forall_mem_cons.mpr ⟨lw_p24, List.forall_mem_cons.mpr ⟨lw_p25, List.forall_mem_cons.mpr ⟨lw_p26, List.forall_mem_cons.mpr ⟨lw_p27, List.forall_mem_cons.mpr ⟨lw_p28, List.forall_mem_cons.mpr ⟨lw_p29, List.forall_mem_cons.mpr ⟨lw_p30, List.forall_mem_cons.mpr ⟨lw_p31, fun _ h => absurd h List.not_mem_nil⟩⟩⟩⟩⟩⟩⟩⟩⟩⟩⟩⟩⟩⟩⟩⟩
theorem lw_p32 : lw_okq (⟨"PaperRoundsModel", "become", "(II)V"⟩, 20) := ⟨⟨by decide +kernel, by decide +kernel⟩, List.mem_of_getElem? (i := 781) (by decide +kernel), List.mem_of_getElem? (i := 974) (by decide +kernel), List.mem_of_getElem? (i := 975) (by decide +kernel)⟩
theorem lw_p33 : lw_okq (⟨"PaperRoundsModel", "complains", "(I)V"⟩, 20) := ⟨⟨by decide +kernel, by decide +kernel⟩, List.mem_of_getElem? (i := 781) (by decide +kernel), List.mem_of_getElem? (i := 978) (by decide +kernel), List.mem_of_getElem? (i := 979) (by decide +kernel)⟩
theorem lw_p34 : lw_okq (⟨"PaperRoundsModel", "goes", "(IIZ)I"⟩, 20) := ⟨⟨by decide +kernel, by decide +kernel⟩, List.mem_of_getElem? (i := 781) (by decide +kernel), List.mem_of_getElem? (i := 982) (by decide +kernel), List.mem_of_getElem? (i := 983) (by decide +kernel)⟩
theorem lw_p35 : lw_okq (⟨"PaperRoundsModel", "laysRow", "()V"⟩, 20) := ⟨⟨by decide +kernel, by decide +kernel⟩, List.mem_of_getElem? (i := 781) (by decide +kernel), List.mem_of_getElem? (i := 986) (by decide +kernel), List.mem_of_getElem? (i := 987) (by decide +kernel)⟩
theorem lw_p36 : lw_okq (⟨"PaperRoundsModel", "isBeyond", "(II)Z"⟩, 20) := ⟨⟨by decide +kernel, by decide +kernel⟩, List.mem_of_getElem? (i := 781) (by decide +kernel), List.mem_of_getElem? (i := 990) (by decide +kernel), List.mem_of_getElem? (i := 991) (by decide +kernel)⟩
theorem lw_p37 : lw_okq (⟨"PaperRoundsModel", "weightOn", "(II)I"⟩, 20) := ⟨⟨by decide +kernel, by decide +kernel⟩, List.mem_of_getElem? (i := 781) (by decide +kernel), List.mem_of_getElem? (i := 994) (by decide +kernel), List.mem_of_getElem? (i := 995) (by decide +kernel)⟩
theorem lw_p38 : lw_okq (⟨"PaperRoundsModel", "endsTrip", "(I)V"⟩, 20) := ⟨⟨by decide +kernel, by decide +kernel⟩, List.mem_of_getElem? (i := 781) (by decide +kernel), List.mem_of_getElem? (i := 998) (by decide +kernel), List.mem_of_getElem? (i := 999) (by decide +kernel)⟩
theorem lw_p39 : lw_okq (⟨"PaperRoundsModel", "loads", "(II)V"⟩, 20) := ⟨⟨by decide +kernel, by decide +kernel⟩, List.mem_of_getElem? (i := 781) (by decide +kernel), List.mem_of_getElem? (i := 1002) (by decide +kernel), List.mem_of_getElem? (i := 1003) (by decide +kernel)⟩
theorem lw_p40 : lw_okq (⟨"PaperRoundsModel", "isOut", "(II)Z"⟩, 20) := ⟨⟨by decide +kernel, by decide +kernel⟩, List.mem_of_getElem? (i := 781) (by decide +kernel), List.mem_of_getElem? (i := 1006) (by decide +kernel), List.mem_of_getElem? (i := 1007) (by decide +kernel)⟩
theorem lw_p41 : lw_okq (⟨"PaperRoundsModel", "delivers", "(III)Z"⟩, 20) := ⟨⟨by decide +kernel, by decide +kernel⟩, List.mem_of_getElem? (i := 781) (by decide +kernel), List.mem_of_getElem? (i := 1010) (by decide +kernel), List.mem_of_getElem? (i := 1011) (by decide +kernel)⟩
theorem lw_p42 : lw_okq (⟨"PaperRoundsModel", "tips", "(I)V"⟩, 20) := ⟨⟨by decide +kernel, by decide +kernel⟩, List.mem_of_getElem? (i := 781) (by decide +kernel), List.mem_of_getElem? (i := 1014) (by decide +kernel), List.mem_of_getElem? (i := 1015) (by decide +kernel)⟩
theorem lw_p43 : lw_okq (⟨"PaperRoundsModel", "farOf", "(I)I"⟩, 20) := ⟨⟨by decide +kernel, by decide +kernel⟩, List.mem_of_getElem? (i := 781) (by decide +kernel), List.mem_of_getElem? (i := 1022) (by decide +kernel), List.mem_of_getElem? (i := 1023) (by decide +kernel)⟩
theorem lw_p44 : lw_okq (⟨"PaperRoundsModel", "housesBeyond", "(I)I"⟩, 20) := ⟨⟨by decide +kernel, by decide +kernel⟩, List.mem_of_getElem? (i := 781) (by decide +kernel), List.mem_of_getElem? (i := 1026) (by decide +kernel), List.mem_of_getElem? (i := 1027) (by decide +kernel)⟩
theorem lw_p45 : lw_okq (⟨"PaperRoundsModel", "dueOf", "(I)I"⟩, 20) := ⟨⟨by decide +kernel, by decide +kernel⟩, List.mem_of_getElem? (i := 781) (by decide +kernel), List.mem_of_getElem? (i := 1038) (by decide +kernel), List.mem_of_getElem? (i := 1039) (by decide +kernel)⟩
theorem lw_p46 : lw_okq (⟨"PaperRoundsModel", "shareOf", "(I)F"⟩, 20) := ⟨⟨by decide +kernel, by decide +kernel⟩, List.mem_of_getElem? (i := 781) (by decide +kernel), List.mem_of_getElem? (i := 1042) (by decide +kernel), List.mem_of_getElem? (i := 1043) (by decide +kernel)⟩
theorem lw_p47 : lw_okq (⟨"PaperRoundsModel", "moreBy", "(III)I"⟩, 20) := ⟨⟨by decide +kernel, by decide +kernel⟩, List.mem_of_getElem? (i := 781) (by decide +kernel), List.mem_of_getElem? (i := 1074) (by decide +kernel), List.mem_of_getElem? (i := 1075) (by decide +kernel)⟩
def lw_privs_3 : List (MethodName × Nat) := [(⟨"PaperRoundsModel", "become", "(II)V"⟩, 20), (⟨"PaperRoundsModel", "complains", "(I)V"⟩, 20), (⟨"PaperRoundsModel", "goes", "(IIZ)I"⟩, 20), (⟨"PaperRoundsModel", "laysRow", "()V"⟩, 20), (⟨"PaperRoundsModel", "isBeyond", "(II)Z"⟩, 20), (⟨"PaperRoundsModel", "weightOn", "(II)I"⟩, 20), (⟨"PaperRoundsModel", "endsTrip", "(I)V"⟩, 20), (⟨"PaperRoundsModel", "loads", "(II)V"⟩, 20), (⟨"PaperRoundsModel", "isOut", "(II)Z"⟩, 20), (⟨"PaperRoundsModel", "delivers", "(III)Z"⟩, 20), (⟨"PaperRoundsModel", "tips", "(I)V"⟩, 20), (⟨"PaperRoundsModel", "farOf", "(I)I"⟩, 20), (⟨"PaperRoundsModel", "housesBeyond", "(I)I"⟩, 20), (⟨"PaperRoundsModel", "dueOf", "(I)I"⟩, 20), (⟨"PaperRoundsModel", "shareOf", "(I)F"⟩, 20), (⟨"PaperRoundsModel", "moreBy", "(III)I"⟩, 20)]
theorem lw_r3 : ∀ q ∈ lw_privs_3, lw_okq q := List.forall_mem_cons.mpr ⟨lw_p32, List.forall_mem_cons.mpr ⟨lw_p33, List.forall_mem_cons.mpr ⟨lw_p34, List.forall_mem_cons.mpr ⟨lw_p35, List.forall_mem_cons.mpr ⟨lw_p36, List.forall_mem_cons.mpr ⟨lw_p37, List.forall_mem_cons.mpr ⟨lw_p38, List.forall_mem_cons.mpr ⟨lw_p39, List.forall_mem_cons.mpr ⟨lw_p40, List.forall_mem_cons.mpr ⟨lw_p41, List.forall_mem_cons.mpr ⟨lw_p42, List.forall_mem_cons.mpr ⟨lw_p43, List.forall_mem_cons.mpr ⟨lw_p44, List.forall_mem_cons.mpr ⟨lw_p45, List.forall_mem_cons.mpr ⟨lw_p46, List.forall_mem_cons.mpr ⟨lw_p47, fun _ h => absurd h List.not_mem_nil⟩⟩⟩⟩⟩⟩⟩⟩⟩⟩⟩⟩⟩⟩⟩⟩
theorem lw_p48 : lw_okq (⟨"PaperRoundsModel", "overHouses", "(I)I"⟩, 20) := ⟨⟨by decide +kernel, by decide +kernel⟩, List.mem_of_getElem? (i := 781) (by decide +kernel), List.mem_of_getElem? (i := 1086) (by decide +kernel), List.mem_of_getElem? (i := 1087) (by decide +kernel)⟩
theorem lw_p49 : lw_okq (⟨"PaperRoundsModel", "pausedNow", "()I"⟩, 20) := ⟨⟨by decide +kernel, by decide +kernel⟩, List.mem_of_getElem? (i := 781) (by decide +kernel), List.mem_of_getElem? (i := 1094) (by decide +kernel), List.mem_of_getElem? (i := 1095) (by decide +kernel)⟩
theorem lw_p50 : lw_okq (⟨"PaperRoundsModel", "tipsAll", "()I"⟩, 20) := ⟨⟨by decide +kernel, by decide +kernel⟩, List.mem_of_getElem? (i := 781) (by decide +kernel), List.mem_of_getElem? (i := 1098) (by decide +kernel), List.mem_of_getElem? (i := 1099) (by decide +kernel)⟩
theorem lw_p51 : lw_okq (⟨"PaperRoundsModel", "looks", "()I"⟩, 20) := ⟨⟨by decide +kernel, by decide +kernel⟩, List.mem_of_getElem? (i := 781) (by decide +kernel), List.mem_of_getElem? (i := 1118) (by decide +kernel), List.mem_of_getElem? (i := 1119) (by decide +kernel)⟩
theorem lw_p52 : lw_okq (⟨"PaperRoundsModel", "doesAll", "()I"⟩, 20) := ⟨⟨by decide +kernel, by decide +kernel⟩, List.mem_of_getElem? (i := 781) (by decide +kernel), List.mem_of_getElem? (i := 1122) (by decide +kernel), List.mem_of_getElem? (i := 1123) (by decide +kernel)⟩
theorem lw_p53 : lw_okq (⟨"PaperRoundsModel", "reads", "(I)Z"⟩, 20) := ⟨⟨by decide +kernel, by decide +kernel⟩, List.mem_of_getElem? (i := 781) (by decide +kernel), List.mem_of_getElem? (i := 1126) (by decide +kernel), List.mem_of_getElem? (i := 1127) (by decide +kernel)⟩
theorem lw_p54 : lw_okq (⟨"PaperRoundsModel", "signAt", "(I)I"⟩, 20) := ⟨⟨by decide +kernel, by decide +kernel⟩, List.mem_of_getElem? (i := 781) (by decide +kernel), List.mem_of_getElem? (i := 1130) (by decide +kernel), List.mem_of_getElem? (i := 1131) (by decide +kernel)⟩
theorem lw_p55 : lw_okq (⟨"PaperRoundsModel", "readsNumber", "(I)Z"⟩, 20) := ⟨⟨by decide +kernel, by decide +kernel⟩, List.mem_of_getElem? (i := 781) (by decide +kernel), List.mem_of_getElem? (i := 1134) (by decide +kernel), List.mem_of_getElem? (i := 1135) (by decide +kernel)⟩
theorem lw_p56 : lw_okq (⟨"PaperRoundsModel", "does", "()I"⟩, 20) := ⟨⟨by decide +kernel, by decide +kernel⟩, List.mem_of_getElem? (i := 781) (by decide +kernel), List.mem_of_getElem? (i := 1138) (by decide +kernel), List.mem_of_getElem? (i := 1139) (by decide +kernel)⟩
def lw_privs_4 : List (MethodName × Nat) := [(⟨"PaperRoundsModel", "overHouses", "(I)I"⟩, 20), (⟨"PaperRoundsModel", "pausedNow", "()I"⟩, 20), (⟨"PaperRoundsModel", "tipsAll", "()I"⟩, 20), (⟨"PaperRoundsModel", "looks", "()I"⟩, 20), (⟨"PaperRoundsModel", "doesAll", "()I"⟩, 20), (⟨"PaperRoundsModel", "reads", "(I)Z"⟩, 20), (⟨"PaperRoundsModel", "signAt", "(I)I"⟩, 20), (⟨"PaperRoundsModel", "readsNumber", "(I)Z"⟩, 20), (⟨"PaperRoundsModel", "does", "()I"⟩, 20)]
theorem lw_r4 : ∀ q ∈ lw_privs_4, lw_okq q := List.forall_mem_cons.mpr ⟨lw_p48, List.forall_mem_cons.mpr ⟨lw_p49, List.forall_mem_cons.mpr ⟨lw_p50, List.forall_mem_cons.mpr ⟨lw_p51, List.forall_mem_cons.mpr ⟨lw_p52, List.forall_mem_cons.mpr ⟨lw_p53, List.forall_mem_cons.mpr ⟨lw_p54, List.forall_mem_cons.mpr ⟨lw_p55, List.forall_mem_cons.mpr ⟨lw_p56, fun _ h => absurd h List.not_mem_nil⟩⟩⟩⟩⟩⟩⟩⟩⟩
def lw_privs : List (MethodName × Nat) := lw_privs_1 ++ (lw_privs_2 ++ (lw_privs_3 ++ (lw_privs_4)))
def lw_tbl : List Cond := k2_sels lw_privs ++ tables_1
theorem lw_privs_ok : ∀ q ∈ lw_privs, lw_okq q := by
  show ∀ q ∈ lw_privs_1 ++ (lw_privs_2 ++ (lw_privs_3 ++ (lw_privs_4))), lw_okq q
  exact List.forall_mem_append.mpr ⟨lw_r1, List.forall_mem_append.mpr ⟨lw_r2, List.forall_mem_append.mpr ⟨lw_r3, lw_r4⟩⟩⟩
/-- the streams that the claim lets the run draw from -/
abbrev lw_cs : List Choice := [Jvm.Choice.named "NaN.bits"]
theorem lw_bits : nanBits ∈ lw_cs := by first | decide | exact List.mem_cons_self | simp [lw_cs, nanBits]
-- ===== end of PART A; then your names; then what follows =====
theorem goodIn_r {big : List Cond} (ws : List Cond) (ps : List Nat) (hp : ws = ps.filterMap (fun i => big[i]?)) (h : ws.all goodWord = true) : GoodIn big ws := by
  intro w hw
  have h1 := List.all_eq_true.mp h w hw
  rw [hp] at hw
  obtain ⟨i, -, hi⟩ := List.mem_filterMap.mp hw
  have hm : w ∈ big := by first | exact List.mem_of_getElem? hi | exact List.getElem?_mem hi
  exact ⟨hm, good_of_word h1⟩
theorem goodIn_app {big a b : List Cond} (ha : GoodIn big a) (hb : GoodIn big b) : GoodIn big (a ++ b) := fun w h => (List.mem_append.mp h).elim (ha w) (hb w)
theorem goodIn_ca {big a b : List Cond} {c : Cond} (ha : GoodIn big (c :: a)) (hb : GoodIn big b) : GoodIn big (c :: (a ++ b)) := fun w h => (List.mem_cons.mp h).elim (fun e => ha w (List.mem_cons.mpr (Or.inl e))) (fun h => (List.mem_append.mp h).elim (fun h => ha w (List.mem_cons.mpr (Or.inr h))) (hb w))
theorem goodIn_sub {big ws : List Cond} (hm : ∀ w ∈ ws, w ∈ big) (h : ws.all goodWord = true) : GoodIn big ws := fun w hw => ⟨hm w hw, good_of_word (List.all_eq_true.mp h w hw)⟩
def RX0 : String := "PaperRounds$Carriers"
def TX0 : u_T := fun k => match k with
  | 0 => ("PaperRounds$Carriers", "many", "I", false)
  | 1 => ("PaperRounds$Carriers", "cart", "[I", true)
  | 2 => ("PaperRounds$Carriers", "limit", "[I", true)
  | 3 => ("PaperRounds$Carriers", "biscuits", "[I", true)
  | 4 => ("PaperRounds$Carriers", "trips", "[I", true)
  | 5 => ("PaperRounds$Carriers", "effort", "[I", true)
  | 6 => ("PaperRounds$Carriers", "tips", "[I", true)
  | _ => ("PaperRounds$Carriers", "delivered", "[I", true)
def tyX0 : Nat → FieldType := fun k => match k with
  | 0 => .int
  | 1 => .array .int
  | 2 => .array .int
  | 3 => .array .int
  | 4 => .array .int
  | 5 => .array .int
  | 6 => .array .int
  | _ => .array .int
abbrev wsX00 : List Cond := u_ws RX0 TX0 8
theorem nmX0 : ∀ a, a < 8 → ∀ b, b < 8 → a ≠ b → (TX0 a).2.1 ≠ (TX0 b).2.1 := by decide +kernel
theorem tyX0_ok : ∀ k, k < 8 → parseFieldDescriptor (TX0 k).2.2.1 = some (tyX0 k) := by decide +kernel
abbrev cX0_init : ByteArray := prog_2_method_1_code
def yX0_init : MethodName := ⟨RX0, "<init>", "()V"⟩
abbrev cX0_copyFrom : ByteArray := prog_2_method_2_code
def yX0_copyFrom : MethodName := ⟨RX0, "copyFrom", "(LPaperRounds$Carriers;)V"⟩
abbrev cX0_has : ByteArray := prog_2_method_3_code
def yX0_has : MethodName := ⟨RX0, "has", "(I)Z"⟩
abbrev cX0_add : ByteArray := prog_2_method_4_code
def yX0_add : MethodName := ⟨RX0, "add", "(II)I"⟩
abbrev cX0_allTips : ByteArray := prog_2_method_5_code
def yX0_allTips : MethodName := ⟨RX0, "allTips", "()I"⟩
def RX1 : String := "PaperRounds$History"
def TX1 : u_T := fun k => match k with
  | 0 => ("PaperRounds$History", "kept", "I", false)
  | 1 => ("PaperRounds$History", "oldest", "I", false)
  | _ => ("PaperRounds$History", "rows", "[LPaperRounds$Town;", true)
def tyX1 : Nat → FieldType := fun k => match k with
  | 0 => .int
  | 1 => .int
  | _ => .array (.object "PaperRounds$Town")
abbrev wsX10 : List Cond := u_ws RX1 TX1 3
theorem nmX1 : ∀ a, a < 3 → ∀ b, b < 3 → a ≠ b → (TX1 a).2.1 ≠ (TX1 b).2.1 := by decide +kernel
theorem tyX1_ok : ∀ k, k < 3 → parseFieldDescriptor (TX1 k).2.2.1 = some (tyX1 k) := by decide +kernel
abbrev cX1_init : ByteArray := prog_3_method_1_code
def yX1_init : MethodName := ⟨RX1, "<init>", "()V"⟩
abbrev cX1_prepare : ByteArray := prog_3_method_2_code
def yX1_prepare : MethodName := ⟨RX1, "prepare", "(LPaperRounds$Town;)V"⟩
abbrev cX1_keepPrepared : ByteArray := prog_3_method_3_code
def yX1_keepPrepared : MethodName := ⟨RX1, "keepPrepared", "()V"⟩
abbrev cX1_restoreInto : ByteArray := prog_3_method_4_code
def yX1_restoreInto : MethodName := ⟨RX1, "restoreInto", "(LPaperRounds$Town;)V"⟩
def RX2 : String := "PaperRounds$Houses"
def TX2 : u_T := fun k => match k with
  | 0 => ("PaperRounds$Houses", "many", "I", false)
  | 1 => ("PaperRounds$Houses", "corner", "[I", true)
  | 2 => ("PaperRounds$Houses", "papers", "[I", true)
  | 3 => ("PaperRounds$Houses", "tip", "[I", true)
  | 4 => ("PaperRounds$Houses", "carrier", "[I", true)
  | 5 => ("PaperRounds$Houses", "period", "[I", true)
  | 6 => ("PaperRounds$Houses", "phase", "[I", true)
  | 7 => ("PaperRounds$Houses", "delivered", "[I", true)
  | 8 => ("PaperRounds$Houses", "paused", "[I", true)
  | 9 => ("PaperRounds$Houses", "returned", "[I", true)
  | 10 => ("PaperRounds$Houses", "lost", "[I", true)
  | 11 => ("PaperRounds$Houses", "complaints", "[I", true)
  | 12 => ("PaperRounds$Houses", "freshComplaints", "[I", true)
  | 13 => ("PaperRounds$Houses", "freshDelivered", "[I", true)
  | _ => ("PaperRounds$Houses", "order", "[I", true)
def tyX2 : Nat → FieldType := fun k => match k with
  | 0 => .int
  | 1 => .array .int
  | 2 => .array .int
  | 3 => .array .int
  | 4 => .array .int
  | 5 => .array .int
  | 6 => .array .int
  | 7 => .array .int
  | 8 => .array .int
  | 9 => .array .int
  | 10 => .array .int
  | 11 => .array .int
  | 12 => .array .int
  | 13 => .array .int
  | _ => .array .int
abbrev wsX20 : List Cond := u_ws RX2 TX2 15
theorem nmX2 : ∀ a, a < 15 → ∀ b, b < 15 → a ≠ b → (TX2 a).2.1 ≠ (TX2 b).2.1 := by decide +kernel
theorem tyX2_ok : ∀ k, k < 15 → parseFieldDescriptor (TX2 k).2.2.1 = some (tyX2 k) := by decide +kernel
abbrev cX2_init : ByteArray := prog_4_method_1_code
def yX2_init : MethodName := ⟨RX2, "<init>", "()V"⟩
abbrev cX2_copyFrom : ByteArray := prog_4_method_2_code
def yX2_copyFrom : MethodName := ⟨RX2, "copyFrom", "(LPaperRounds$Houses;)V"⟩
abbrev cX2_has : ByteArray := prog_4_method_3_code
def yX2_has : MethodName := ⟨RX2, "has", "(I)Z"⟩
abbrev cX2_add : ByteArray := prog_4_method_4_code
def yX2_add : MethodName := ⟨RX2, "add", "(LPaperRounds$Streets;III)I"⟩
abbrev cX2_makeOrder : ByteArray := prog_4_method_5_code
def yX2_makeOrder : MethodName := ⟨RX2, "makeOrder", "(LPaperRounds$Streets;)V"⟩
abbrev cX2_manyOf : ByteArray := prog_4_method_6_code
def yX2_manyOf : MethodName := ⟨RX2, "manyOf", "(I)I"⟩
abbrev cX2_dogIsOut : ByteArray := prog_4_method_7_code
def yX2_dogIsOut : MethodName := ⟨RX2, "dogIsOut", "(II)Z"⟩
abbrev cX2_complain : ByteArray := prog_4_method_8_code
def yX2_complain : MethodName := ⟨RX2, "complain", "(I)V"⟩
abbrev cX2_allComplaints : ByteArray := prog_4_method_9_code
def yX2_allComplaints : MethodName := ⟨RX2, "allComplaints", "()I"⟩
abbrev cX2_papersDue : ByteArray := prog_4_method_10_code
def yX2_papersDue : MethodName := ⟨RX2, "papersDue", "(I)I"⟩
abbrev cX2_share : ByteArray := prog_4_method_11_code
def yX2_share : MethodName := ⟨RX2, "share", "(I)F"⟩
abbrev cX2_tipNow : ByteArray := prog_4_method_12_code
def yX2_tipNow : MethodName := ⟨RX2, "tipNow", "(I)I"⟩
abbrev cX2_beginWeek : ByteArray := prog_4_method_13_code
def yX2_beginWeek : MethodName := ⟨RX2, "beginWeek", "()V"⟩
def RX3 : String := "PaperRounds$Pauses"
def TX3 : u_T := fun k => match k with
  | 0 => ("PaperRounds$Pauses", "many", "I", false)
  | 1 => ("PaperRounds$Pauses", "house", "[I", true)
  | 2 => ("PaperRounds$Pauses", "first", "[I", true)
  | _ => ("PaperRounds$Pauses", "last", "[I", true)
def tyX3 : Nat → FieldType := fun k => match k with
  | 0 => .int
  | 1 => .array .int
  | 2 => .array .int
  | _ => .array .int
abbrev wsX30 : List Cond := u_ws RX3 TX3 4
theorem nmX3 : ∀ a, a < 4 → ∀ b, b < 4 → a ≠ b → (TX3 a).2.1 ≠ (TX3 b).2.1 := by decide +kernel
theorem tyX3_ok : ∀ k, k < 4 → parseFieldDescriptor (TX3 k).2.2.1 = some (tyX3 k) := by decide +kernel
abbrev cX3_init : ByteArray := prog_5_method_1_code
def yX3_init : MethodName := ⟨RX3, "<init>", "()V"⟩
abbrev cX3_copyFrom : ByteArray := prog_5_method_2_code
def yX3_copyFrom : MethodName := ⟨RX3, "copyFrom", "(LPaperRounds$Pauses;)V"⟩
abbrev cX3_add : ByteArray := prog_5_method_3_code
def yX3_add : MethodName := ⟨RX3, "add", "(III)I"⟩
abbrev cX3_cover : ByteArray := prog_5_method_4_code
def yX3_cover : MethodName := ⟨RX3, "cover", "(II)Z"⟩
def RX4 : String := "PaperRounds$Streets"
def TX4 : u_T := fun k => match k with
  | 0 => ("PaperRounds$Streets", "many", "I", false)
  | 1 => ("PaperRounds$Streets", "ahead", "[I", true)
  | 2 => ("PaperRounds$Streets", "length", "[I", true)
  | 3 => ("PaperRounds$Streets", "height", "[I", true)
  | 4 => ("PaperRounds$Streets", "stairs", "[I", true)
  | 5 => ("PaperRounds$Streets", "depth", "[I", true)
  | 6 => ("PaperRounds$Streets", "distance", "[I", true)
  | 7 => ("PaperRounds$Streets", "cartsCome", "[I", true)
  | _ => ("PaperRounds$Streets", "order", "[I", true)
def tyX4 : Nat → FieldType := fun k => match k with
  | 0 => .int
  | 1 => .array .int
  | 2 => .array .int
  | 3 => .array .int
  | 4 => .array .int
  | 5 => .array .int
  | 6 => .array .int
  | 7 => .array .int
  | _ => .array .int
abbrev wsX40 : List Cond := u_ws RX4 TX4 9
theorem nmX4 : ∀ a, a < 9 → ∀ b, b < 9 → a ≠ b → (TX4 a).2.1 ≠ (TX4 b).2.1 := by decide +kernel
theorem tyX4_ok : ∀ k, k < 9 → parseFieldDescriptor (TX4 k).2.2.1 = some (tyX4 k) := by decide +kernel
abbrev cX4_init : ByteArray := prog_6_method_1_code
def yX4_init : MethodName := ⟨RX4, "<init>", "()V"⟩
abbrev cX4_copyFrom : ByteArray := prog_6_method_2_code
def yX4_copyFrom : MethodName := ⟨RX4, "copyFrom", "(LPaperRounds$Streets;)V"⟩
abbrev cX4_has : ByteArray := prog_6_method_3_code
def yX4_has : MethodName := ⟨RX4, "has", "(I)Z"⟩
abbrev cX4_add : ByteArray := prog_6_method_4_code
def yX4_add : MethodName := ⟨RX4, "add", "(IIII)I"⟩
abbrev cX4_putInOrder : ByteArray := prog_6_method_5_code
def yX4_putInOrder : MethodName := ⟨RX4, "putInOrder", "(I)V"⟩
abbrev cX4_isAtOrBeyond : ByteArray := prog_6_method_6_code
def yX4_isAtOrBeyond : MethodName := ⟨RX4, "isAtOrBeyond", "(II)Z"⟩
abbrev cX4_effortOfStreet : ByteArray := prog_6_method_7_code
def yX4_effortOfStreet : MethodName := ⟨RX4, "effortOfStreet", "(III)I"⟩
def RX5 : String := "PaperRounds$Text"
def TX5 : u_T := fun k => match k with
  | 0 => ("PaperRounds$Text", "length", "I", false)
  | 1 => ("PaperRounds$Text", "signs", "[C", true)
  | 2 => ("PaperRounds$Text", "kind", "C", false)
  | 3 => ("PaperRounds$Text", "next", "I", false)
  | _ => ("PaperRounds$Text", "numbers", "[I", true)
def tyX5 : Nat → FieldType := fun k => match k with
  | 0 => .int
  | 1 => .array .char
  | 2 => .char
  | 3 => .int
  | _ => .array .int
abbrev wsX50 : List Cond := u_ws RX5 TX5 5
theorem nmX5 : ∀ a, a < 5 → ∀ b, b < 5 → a ≠ b → (TX5 a).2.1 ≠ (TX5 b).2.1 := by decide +kernel
theorem tyX5_ok : ∀ k, k < 5 → parseFieldDescriptor (TX5 k).2.2.1 = some (tyX5 k) := by decide +kernel
abbrev cX5_init : ByteArray := prog_7_method_1_code
def yX5_init : MethodName := ⟨RX5, "<init>", "()V"⟩
abbrev cX5_append : ByteArray := prog_7_method_2_code
def yX5_append : MethodName := ⟨RX5, "append", "(C)I"⟩
abbrev cX5_readOrder : ByteArray := prog_7_method_3_code
def yX5_readOrder : MethodName := ⟨RX5, "readOrder", "(I)Z"⟩
abbrev cX5_numbersOf : ByteArray := prog_7_method_4_code
def yX5_numbersOf : MethodName := ⟨RX5, "numbersOf", "(C)I"⟩
abbrev cX5_readNumber : ByteArray := prog_7_method_5_code
def yX5_readNumber : MethodName := ⟨RX5, "readNumber", "()I"⟩
abbrev cX5_readSign : ByteArray := prog_7_method_6_code
def yX5_readSign : MethodName := ⟨RX5, "readSign", "(C)Z"⟩
def RX6 : String := "PaperRounds$Town"
def TX6 : u_T := fun k => match k with
  | 0 => ("PaperRounds$Town", "day", "I", false)
  | 1 => ("PaperRounds$Town", "weight", "I", false)
  | 2 => ("PaperRounds$Town", "sundayWeight", "I", false)
  | 3 => ("PaperRounds$Town", "accounts", "[I", true)
  | 4 => ("PaperRounds$Town", "streets", "LPaperRounds$Streets;", true)
  | 5 => ("PaperRounds$Town", "houses", "LPaperRounds$Houses;", true)
  | 6 => ("PaperRounds$Town", "pauses", "LPaperRounds$Pauses;", true)
  | _ => ("PaperRounds$Town", "carriers", "LPaperRounds$Carriers;", true)
def tyX6 : Nat → FieldType := fun k => match k with
  | 0 => .int
  | 1 => .int
  | 2 => .int
  | 3 => .array .int
  | 4 => .object "PaperRounds$Streets"
  | 5 => .object "PaperRounds$Houses"
  | 6 => .object "PaperRounds$Pauses"
  | _ => .object "PaperRounds$Carriers"
abbrev wsX60 : List Cond := u_ws RX6 TX6 8
theorem nmX6 : ∀ a, a < 8 → ∀ b, b < 8 → a ≠ b → (TX6 a).2.1 ≠ (TX6 b).2.1 := by decide +kernel
theorem tyX6_ok : ∀ k, k < 8 → parseFieldDescriptor (TX6 k).2.2.1 = some (tyX6 k) := by decide +kernel
abbrev cX6_init : ByteArray := prog_8_method_1_code
def yX6_init : MethodName := ⟨RX6, "<init>", "()V"⟩
abbrev cX6_copyFrom : ByteArray := prog_8_method_2_code
def yX6_copyFrom : MethodName := ⟨RX6, "copyFrom", "(LPaperRounds$Town;)V"⟩
abbrev cX6_addCorner : ByteArray := prog_8_method_3_code
def yX6_addCorner : MethodName := ⟨RX6, "addCorner", "(IIII)I"⟩
abbrev cX6_addHouse : ByteArray := prog_8_method_4_code
def yX6_addHouse : MethodName := ⟨RX6, "addHouse", "(III)I"⟩
abbrev cX6_changeDog : ByteArray := prog_8_method_5_code
def yX6_changeDog : MethodName := ⟨RX6, "changeDog", "(III)I"⟩
abbrev cX6_addPause : ByteArray := prog_8_method_6_code
def yX6_addPause : MethodName := ⟨RX6, "addPause", "(III)I"⟩
abbrev cX6_addCarrier : ByteArray := prog_8_method_7_code
def yX6_addCarrier : MethodName := ⟨RX6, "addCarrier", "(II)I"⟩
abbrev cX6_handOver : ByteArray := prog_8_method_8_code
def yX6_handOver : MethodName := ⟨RX6, "handOver", "(II)I"⟩
abbrev cX6_takeBack : ByteArray := prog_8_method_9_code
def yX6_takeBack : MethodName := ⟨RX6, "takeBack", "(I)I"⟩
abbrev cX6_addBiscuits : ByteArray := prog_8_method_10_code
def yX6_addBiscuits : MethodName := ⟨RX6, "addBiscuits", "(II)I"⟩
abbrev cX6_changeSetting : ByteArray := prog_8_method_11_code
def yX6_changeSetting : MethodName := ⟨RX6, "changeSetting", "(II)I"⟩
abbrev cX6_letDaysGo : ByteArray := prog_8_method_12_code
def yX6_letDaysGo : MethodName := ⟨RX6, "letDaysGo", "(ILPaperRounds$Walk;)I"⟩
abbrev cX6_bringPapers : ByteArray := prog_8_method_13_code
def yX6_bringPapers : MethodName := ⟨RX6, "bringPapers", "()V"⟩
abbrev cX6_fateOfPapers : ByteArray := prog_8_method_14_code
def yX6_fateOfPapers : MethodName := ⟨RX6, "fateOfPapers", "(I)I"⟩
abbrev cX6_book : ByteArray := prog_8_method_15_code
def yX6_book : MethodName := ⟨RX6, "book", "(III)V"⟩
abbrev cX6_payTips : ByteArray := prog_8_method_16_code
def yX6_payTips : MethodName := ⟨RX6, "payTips", "()V"⟩
abbrev cX6_weightOn : ByteArray := prog_8_method_17_code
def yX6_weightOn : MethodName := ⟨RX6, "weightOn", "(I)I"⟩
abbrev cX6_isSunday : ByteArray := prog_8_method_18_code
def yX6_isSunday : MethodName := ⟨RX6, "isSunday", "(I)Z"⟩
abbrev cX6_canReach : ByteArray := prog_8_method_19_code
def yX6_canReach : MethodName := ⟨RX6, "canReach", "(II)Z"⟩
abbrev cX6_housesFrom : ByteArray := prog_8_method_20_code
def yX6_housesFrom : MethodName := ⟨RX6, "housesFrom", "(I)I"⟩
abbrev cX6_housesPaused : ByteArray := prog_8_method_21_code
def yX6_housesPaused : MethodName := ⟨RX6, "housesPaused", "()I"⟩
def RX7 : String := "PaperRounds$Trial"
def TX7 : u_T := fun k => match k with
  | 0 => ("PaperRounds$Trial", "town", "LPaperRounds$Town;", true)
  | 1 => ("PaperRounds$Trial", "orders", "I", false)
  | 2 => ("PaperRounds$Trial", "position", "I", false)
  | 3 => ("PaperRounds$Trial", "reason", "I", false)
  | _ => ("PaperRounds$Trial", "cause", "I", false)
def tyX7 : Nat → FieldType := fun k => match k with
  | 0 => .object "PaperRounds$Town"
  | 1 => .int
  | 2 => .int
  | 3 => .int
  | _ => .int
abbrev wsX70 : List Cond := u_ws RX7 TX7 5
theorem nmX7 : ∀ a, a < 5 → ∀ b, b < 5 → a ≠ b → (TX7 a).2.1 ≠ (TX7 b).2.1 := by decide +kernel
theorem tyX7_ok : ∀ k, k < 5 → parseFieldDescriptor (TX7 k).2.2.1 = some (tyX7 k) := by decide +kernel
abbrev cX7_init : ByteArray := prog_9_method_1_code
def yX7_init : MethodName := ⟨RX7, "<init>", "()V"⟩
abbrev cX7_run : ByteArray := prog_9_method_2_code
def yX7_run : MethodName := ⟨RX7, "run", "(LPaperRounds$Town;LPaperRounds$Text;LPaperRounds$Walk;)V"⟩
abbrev cX7_answerOf : ByteArray := prog_9_method_3_code
def yX7_answerOf : MethodName := ⟨RX7, "answerOf", "(C[ILPaperRounds$Walk;)I"⟩
def RX8 : String := "PaperRounds$Walk"
def TX8 : u_T := fun k => match k with
  | 0 => ("PaperRounds$Walk", "trips", "I", false)
  | 1 => ("PaperRounds$Walk", "effort", "I", false)
  | 2 => ("PaperRounds$Walk", "papers", "I", false)
  | 3 => ("PaperRounds$Walk", "dogs", "I", false)
  | 4 => ("PaperRounds$Walk", "onTrip", "I", false)
  | _ => ("PaperRounds$Walk", "load", "[I", true)
def tyX8 : Nat → FieldType := fun k => match k with
  | 0 => .int
  | 1 => .int
  | 2 => .int
  | 3 => .int
  | 4 => .int
  | _ => .array .int
abbrev wsX80 : List Cond := u_ws RX8 TX8 6
theorem nmX8 : ∀ a, a < 6 → ∀ b, b < 6 → a ≠ b → (TX8 a).2.1 ≠ (TX8 b).2.1 := by decide +kernel
theorem tyX8_ok : ∀ k, k < 6 → parseFieldDescriptor (TX8 k).2.2.1 = some (tyX8 k) := by decide +kernel
abbrev cX8_init : ByteArray := prog_10_method_1_code
def yX8_init : MethodName := ⟨RX8, "<init>", "()V"⟩
abbrev cX8_go : ByteArray := prog_10_method_2_code
def yX8_go : MethodName := ⟨RX8, "go", "(LPaperRounds$Town;III)V"⟩
abbrev cX8_clear : ByteArray := prog_10_method_3_code
def yX8_clear : MethodName := ⟨RX8, "clear", "()V"⟩
abbrev cX8_endTrip : ByteArray := prog_10_method_4_code
def yX8_endTrip : MethodName := ⟨RX8, "endTrip", "(LPaperRounds$Streets;I)V"⟩
abbrev cX8_moreEffort : ByteArray := prog_10_method_5_code
def yX8_moreEffort : MethodName := ⟨RX8, "moreEffort", "(LPaperRounds$Town;III)I"⟩
def RX9 : String := "PaperRounds"
def TX9 : u_T := fun k => match k with
  | 0 => ("PaperRounds", "town", "LPaperRounds$Town;", true)
  | 1 => ("PaperRounds", "history", "LPaperRounds$History;", true)
  | 2 => ("PaperRounds", "walk", "LPaperRounds$Walk;", true)
  | 3 => ("PaperRounds", "text", "LPaperRounds$Text;", true)
  | _ => ("PaperRounds", "trial", "LPaperRounds$Trial;", true)
def tyX9 : Nat → FieldType := fun k => match k with
  | 0 => .object "PaperRounds$Town"
  | 1 => .object "PaperRounds$History"
  | 2 => .object "PaperRounds$Walk"
  | 3 => .object "PaperRounds$Text"
  | _ => .object "PaperRounds$Trial"
abbrev wsX90 : List Cond := u_ws RX9 TX9 5
theorem nmX9 : ∀ a, a < 5 → ∀ b, b < 5 → a ≠ b → (TX9 a).2.1 ≠ (TX9 b).2.1 := by decide +kernel
theorem tyX9_ok : ∀ k, k < 5 → parseFieldDescriptor (TX9 k).2.2.1 = some (tyX9 k) := by decide +kernel
abbrev cX9_init : ByteArray := prog_1_method_1_code
def yX9_init : MethodName := ⟨RX9, "<init>", "()V"⟩
abbrev cX9_corner : ByteArray := prog_1_method_2_code
def yX9_corner : MethodName := ⟨RX9, "corner", "(IIII)I"⟩
abbrev cX9_house : ByteArray := prog_1_method_3_code
def yX9_house : MethodName := ⟨RX9, "house", "(III)I"⟩
abbrev cX9_dog : ByteArray := prog_1_method_4_code
def yX9_dog : MethodName := ⟨RX9, "dog", "(III)I"⟩
abbrev cX9_pause : ByteArray := prog_1_method_5_code
def yX9_pause : MethodName := ⟨RX9, "pause", "(III)I"⟩
abbrev cX9_carrier : ByteArray := prog_1_method_6_code
def yX9_carrier : MethodName := ⟨RX9, "carrier", "(II)I"⟩
abbrev cX9_give : ByteArray := prog_1_method_7_code
def yX9_give : MethodName := ⟨RX9, "give", "(II)I"⟩
abbrev cX9_giveNone : ByteArray := prog_1_method_8_code
def yX9_giveNone : MethodName := ⟨RX9, "giveNone", "(I)I"⟩
abbrev cX9_biscuits : ByteArray := prog_1_method_9_code
def yX9_biscuits : MethodName := ⟨RX9, "biscuits", "(II)I"⟩
abbrev cX9_set : ByteArray := prog_1_method_10_code
def yX9_set : MethodName := ⟨RX9, "set", "(II)I"⟩
abbrev cX9_days : ByteArray := prog_1_method_11_code
def yX9_days : MethodName := ⟨RX9, "days", "(I)I"⟩
abbrev cX9_cornerOf : ByteArray := prog_1_method_12_code
def yX9_cornerOf : MethodName := ⟨RX9, "cornerOf", "(II)I"⟩
abbrev cX9_houseOf : ByteArray := prog_1_method_13_code
def yX9_houseOf : MethodName := ⟨RX9, "houseOf", "(II)I"⟩
abbrev cX9_shareBits : ByteArray := prog_1_method_14_code
def yX9_shareBits : MethodName := ⟨RX9, "shareBits", "(I)I"⟩
abbrev cX9_meanBits : ByteArray := prog_1_method_15_code
def yX9_meanBits : MethodName := ⟨RX9, "meanBits", "()I"⟩
abbrev cX9_carrierOf : ByteArray := prog_1_method_16_code
def yX9_carrierOf : MethodName := ⟨RX9, "carrierOf", "(II)I"⟩
abbrev cX9_pauseOf : ByteArray := prog_1_method_17_code
def yX9_pauseOf : MethodName := ⟨RX9, "pauseOf", "(II)I"⟩
abbrev cX9_roundAt : ByteArray := prog_1_method_18_code
def yX9_roundAt : MethodName := ⟨RX9, "roundAt", "(II)I"⟩
abbrev cX9_round : ByteArray := prog_1_method_19_code
def yX9_round : MethodName := ⟨RX9, "round", "(III)I"⟩
abbrev cX9_lightest : ByteArray := prog_1_method_20_code
def yX9_lightest : MethodName := ⟨RX9, "lightest", "(II)I"⟩
abbrev cX9_nextDog : ByteArray := prog_1_method_21_code
def yX9_nextDog : MethodName := ⟨RX9, "nextDog", "(I)I"⟩
abbrev cX9_account : ByteArray := prog_1_method_22_code
def yX9_account : MethodName := ⟨RX9, "account", "(I)I"⟩
abbrev cX9_count : ByteArray := prog_1_method_23_code
def yX9_count : MethodName := ⟨RX9, "count", "(I)I"⟩
abbrev cX9_undo : ByteArray := prog_1_method_24_code
def yX9_undo : MethodName := ⟨RX9, "undo", "()I"⟩
abbrev cX9_type : ByteArray := prog_1_method_25_code
def yX9_type : MethodName := ⟨RX9, "type", "(I)I"⟩
abbrev cX9_clearText : ByteArray := prog_1_method_26_code
def yX9_clearText : MethodName := ⟨RX9, "clearText", "()I"⟩
abbrev cX9_fault : ByteArray := prog_1_method_27_code
def yX9_fault : MethodName := ⟨RX9, "fault", "(I)I"⟩
abbrev cX9_play : ByteArray := prog_1_method_28_code
def yX9_play : MethodName := ⟨RX9, "play", "()I"⟩
abbrev cX9_settled : ByteArray := prog_1_method_29_code
def yX9_settled : MethodName := ⟨RX9, "settled", "(I)I"⟩
abbrev cX9_within : ByteArray := prog_1_method_30_code
def yX9_within : MethodName := ⟨RX9, "within", "(III)Z"⟩
abbrev cX9_bitsOf : ByteArray := prog_1_method_31_code
def yX9_bitsOf : MethodName := ⟨RX9, "bitsOf", "(F)I"⟩
abbrev cX9_copy : ByteArray := prog_1_method_32_code
def yX9_copy : MethodName := ⟨RX9, "copy", "([I[II)V"⟩
def RX10 : String := "PaperRoundsModel"
def TX10 : u_T := fun k => match k with
  | 0 => ("PaperRoundsModel", "now", "[I", true)
  | 1 => ("PaperRoundsModel", "past", "[I", true)
  | 2 => ("PaperRoundsModel", "pasts", "I", false)
  | 3 => ("PaperRoundsModel", "before", "[I", true)
  | 4 => ("PaperRoundsModel", "tried", "[I", true)
  | 5 => ("PaperRoundsModel", "text", "[I", true)
  | 6 => ("PaperRoundsModel", "typed", "I", false)
  | 7 => ("PaperRoundsModel", "corners", "[I", true)
  | 8 => ("PaperRoundsModel", "row", "[I", true)
  | 9 => ("PaperRoundsModel", "trips", "I", false)
  | 10 => ("PaperRoundsModel", "efforts", "I", false)
  | 11 => ("PaperRoundsModel", "loaded", "I", false)
  | 12 => ("PaperRoundsModel", "dogs", "I", false)
  | 13 => ("PaperRoundsModel", "weights", "[I", true)
  | 14 => ("PaperRoundsModel", "at", "I", false)
  | 15 => ("PaperRoundsModel", "letter", "I", false)
  | 16 => ("PaperRoundsModel", "numbers", "[I", true)
  | 17 => ("PaperRoundsModel", "orders", "I", false)
  | 18 => ("PaperRoundsModel", "faultAt", "I", false)
  | _ => ("PaperRoundsModel", "cause", "I", false)
def tyX10 : Nat → FieldType := fun k => match k with
  | 0 => .array .int
  | 1 => .array .int
  | 2 => .int
  | 3 => .array .int
  | 4 => .array .int
  | 5 => .array .int
  | 6 => .int
  | 7 => .array .int
  | 8 => .array .int
  | 9 => .int
  | 10 => .int
  | 11 => .int
  | 12 => .int
  | 13 => .array .int
  | 14 => .int
  | 15 => .int
  | 16 => .array .int
  | 17 => .int
  | 18 => .int
  | _ => .int
abbrev wsX100 : List Cond := u_ws RX10 TX10 20
theorem nmX10 : ∀ a, a < 20 → ∀ b, b < 20 → a ≠ b → (TX10 a).2.1 ≠ (TX10 b).2.1 := by decide +kernel
theorem tyX10_ok : ∀ k, k < 20 → parseFieldDescriptor (TX10 k).2.2.1 = some (tyX10 k) := by decide +kernel
abbrev cX10_init : ByteArray := prog_12_method_1_code
def yX10_init : MethodName := ⟨RX10, "<init>", "()V"⟩
abbrev cX10_in : ByteArray := prog_12_method_2_code
def yX10_in : MethodName := ⟨RX10, "in", "(III)Z"⟩
abbrev cX10_copies : ByteArray := prog_12_method_3_code
def yX10_copies : MethodName := ⟨RX10, "copies", "([II[II)V"⟩
abbrev cX10_notes : ByteArray := prog_12_method_4_code
def yX10_notes : MethodName := ⟨RX10, "notes", "()V"⟩
abbrev cX10_ends : ByteArray := prog_12_method_5_code
def yX10_ends : MethodName := ⟨RX10, "ends", "(I)I"⟩
abbrev cX10_isCorner : ByteArray := prog_12_method_6_code
def yX10_isCorner : MethodName := ⟨RX10, "isCorner", "(I)Z"⟩
abbrev cX10_isHouse : ByteArray := prog_12_method_7_code
def yX10_isHouse : MethodName := ⟨RX10, "isHouse", "(I)Z"⟩
abbrev cX10_isCarrier : ByteArray := prog_12_method_8_code
def yX10_isCarrier : MethodName := ⟨RX10, "isCarrier", "(I)Z"⟩
abbrev cX10_ofCorner : ByteArray := prog_12_method_9_code
def yX10_ofCorner : MethodName := ⟨RX10, "ofCorner", "(II)I"⟩
abbrev cX10_of : ByteArray := prog_12_method_10_code
def yX10_of : MethodName := ⟨RX10, "of", "(II)I"⟩
abbrev cX10_lays : ByteArray := prog_12_method_11_code
def yX10_lays : MethodName := ⟨RX10, "lays", "(III)V"⟩
abbrev cX10_ofCarrier : ByteArray := prog_12_method_12_code
def yX10_ofCarrier : MethodName := ⟨RX10, "ofCarrier", "(II)I"⟩
abbrev cX10_addsCarrier : ByteArray := prog_12_method_13_code
def yX10_addsCarrier : MethodName := ⟨RX10, "addsCarrier", "(III)V"⟩
abbrev cX10_isBeyond : ByteArray := prog_12_method_14_code
def yX10_isBeyond : MethodName := ⟨RX10, "isBeyond", "(II)Z"⟩
abbrev cX10_cartsCome : ByteArray := prog_12_method_15_code
def yX10_cartsCome : MethodName := ⟨RX10, "cartsCome", "(I)Z"⟩
abbrev cX10_farOf : ByteArray := prog_12_method_16_code
def yX10_farOf : MethodName := ⟨RX10, "farOf", "(I)I"⟩
abbrev cX10_laysRow : ByteArray := prog_12_method_17_code
def yX10_laysRow : MethodName := ⟨RX10, "laysRow", "()V"⟩
abbrev cX10_corner : ByteArray := prog_12_method_18_code
def yX10_corner : MethodName := ⟨RX10, "corner", "(IIII)I"⟩
abbrev cX10_house : ByteArray := prog_12_method_19_code
def yX10_house : MethodName := ⟨RX10, "house", "(III)I"⟩
abbrev cX10_dog : ByteArray := prog_12_method_20_code
def yX10_dog : MethodName := ⟨RX10, "dog", "(III)I"⟩
abbrev cX10_pauses : ByteArray := prog_12_method_21_code
def yX10_pauses : MethodName := ⟨RX10, "pauses", "(III)I"⟩
abbrev cX10_pause : ByteArray := prog_12_method_22_code
def yX10_pause : MethodName := ⟨RX10, "pause", "(III)I"⟩
abbrev cX10_carrier : ByteArray := prog_12_method_23_code
def yX10_carrier : MethodName := ⟨RX10, "carrier", "(II)I"⟩
abbrev cX10_housesOf : ByteArray := prog_12_method_24_code
def yX10_housesOf : MethodName := ⟨RX10, "housesOf", "(I)I"⟩
abbrev cX10_canReach : ByteArray := prog_12_method_25_code
def yX10_canReach : MethodName := ⟨RX10, "canReach", "(II)Z"⟩
abbrev cX10_gives : ByteArray := prog_12_method_26_code
def yX10_gives : MethodName := ⟨RX10, "gives", "(II)I"⟩
abbrev cX10_give : ByteArray := prog_12_method_27_code
def yX10_give : MethodName := ⟨RX10, "give", "(II)I"⟩
abbrev cX10_givesNone : ByteArray := prog_12_method_28_code
def yX10_givesNone : MethodName := ⟨RX10, "givesNone", "(I)I"⟩
abbrev cX10_giveNone : ByteArray := prog_12_method_29_code
def yX10_giveNone : MethodName := ⟨RX10, "giveNone", "(I)I"⟩
abbrev cX10_addsBiscuits : ByteArray := prog_12_method_30_code
def yX10_addsBiscuits : MethodName := ⟨RX10, "addsBiscuits", "(II)I"⟩
abbrev cX10_biscuits : ByteArray := prog_12_method_31_code
def yX10_biscuits : MethodName := ⟨RX10, "biscuits", "(II)I"⟩
abbrev cX10_set : ByteArray := prog_12_method_32_code
def yX10_set : MethodName := ⟨RX10, "set", "(II)I"⟩
abbrev cX10_isPaused : ByteArray := prog_12_method_33_code
def yX10_isPaused : MethodName := ⟨RX10, "isPaused", "(II)Z"⟩
abbrev cX10_isOut : ByteArray := prog_12_method_34_code
def yX10_isOut : MethodName := ⟨RX10, "isOut", "(II)Z"⟩
abbrev cX10_weightOn : ByteArray := prog_12_method_35_code
def yX10_weightOn : MethodName := ⟨RX10, "weightOn", "(II)I"⟩
abbrev cX10_loads : ByteArray := prog_12_method_36_code
def yX10_loads : MethodName := ⟨RX10, "loads", "(II)V"⟩
abbrev cX10_endsTrip : ByteArray := prog_12_method_37_code
def yX10_endsTrip : MethodName := ⟨RX10, "endsTrip", "(I)V"⟩
abbrev cX10_complains : ByteArray := prog_12_method_38_code
def yX10_complains : MethodName := ⟨RX10, "complains", "(I)V"⟩
abbrev cX10_become : ByteArray := prog_12_method_39_code
def yX10_become : MethodName := ⟨RX10, "become", "(II)V"⟩
abbrev cX10_delivers : ByteArray := prog_12_method_40_code
def yX10_delivers : MethodName := ⟨RX10, "delivers", "(III)Z"⟩
abbrev cX10_goes : ByteArray := prog_12_method_41_code
def yX10_goes : MethodName := ⟨RX10, "goes", "(IIZ)I"⟩
abbrev cX10_tips : ByteArray := prog_12_method_42_code
def yX10_tips : MethodName := ⟨RX10, "tips", "(I)V"⟩
abbrev cX10_dayGoes : ByteArray := prog_12_method_43_code
def yX10_dayGoes : MethodName := ⟨RX10, "dayGoes", "()I"⟩
abbrev cX10_daysGo : ByteArray := prog_12_method_44_code
def yX10_daysGo : MethodName := ⟨RX10, "daysGo", "(I)I"⟩
abbrev cX10_days : ByteArray := prog_12_method_45_code
def yX10_days : MethodName := ⟨RX10, "days", "(I)I"⟩
abbrev cX10_housesBeyond : ByteArray := prog_12_method_46_code
def yX10_housesBeyond : MethodName := ⟨RX10, "housesBeyond", "(I)I"⟩
abbrev cX10_cornerOf : ByteArray := prog_12_method_47_code
def yX10_cornerOf : MethodName := ⟨RX10, "cornerOf", "(II)I"⟩
abbrev cX10_houseOf : ByteArray := prog_12_method_48_code
def yX10_houseOf : MethodName := ⟨RX10, "houseOf", "(II)I"⟩
abbrev cX10_dueOf : ByteArray := prog_12_method_49_code
def yX10_dueOf : MethodName := ⟨RX10, "dueOf", "(I)I"⟩
abbrev cX10_shareOf : ByteArray := prog_12_method_50_code
def yX10_shareOf : MethodName := ⟨RX10, "shareOf", "(I)F"⟩
abbrev cX10_bitsOf : ByteArray := prog_12_method_51_code
def yX10_bitsOf : MethodName := ⟨RX10, "bitsOf", "(F)I"⟩
abbrev cX10_shareBits : ByteArray := prog_12_method_52_code
def yX10_shareBits : MethodName := ⟨RX10, "shareBits", "(I)I"⟩
abbrev cX10_meanBits : ByteArray := prog_12_method_53_code
def yX10_meanBits : MethodName := ⟨RX10, "meanBits", "()I"⟩
abbrev cX10_carrierOf : ByteArray := prog_12_method_54_code
def yX10_carrierOf : MethodName := ⟨RX10, "carrierOf", "(II)I"⟩
abbrev cX10_pauseOf : ByteArray := prog_12_method_55_code
def yX10_pauseOf : MethodName := ⟨RX10, "pauseOf", "(II)I"⟩
abbrev cX10_roundAt : ByteArray := prog_12_method_56_code
def yX10_roundAt : MethodName := ⟨RX10, "roundAt", "(II)I"⟩
abbrev cX10_round : ByteArray := prog_12_method_57_code
def yX10_round : MethodName := ⟨RX10, "round", "(III)I"⟩
abbrev cX10_moreBy : ByteArray := prog_12_method_58_code
def yX10_moreBy : MethodName := ⟨RX10, "moreBy", "(III)I"⟩
abbrev cX10_lightest : ByteArray := prog_12_method_59_code
def yX10_lightest : MethodName := ⟨RX10, "lightest", "(II)I"⟩
abbrev cX10_nextDog : ByteArray := prog_12_method_60_code
def yX10_nextDog : MethodName := ⟨RX10, "nextDog", "(I)I"⟩
abbrev cX10_overHouses : ByteArray := prog_12_method_61_code
def yX10_overHouses : MethodName := ⟨RX10, "overHouses", "(I)I"⟩
abbrev cX10_account : ByteArray := prog_12_method_62_code
def yX10_account : MethodName := ⟨RX10, "account", "(I)I"⟩
abbrev cX10_pausedNow : ByteArray := prog_12_method_63_code
def yX10_pausedNow : MethodName := ⟨RX10, "pausedNow", "()I"⟩
abbrev cX10_tipsAll : ByteArray := prog_12_method_64_code
def yX10_tipsAll : MethodName := ⟨RX10, "tipsAll", "()I"⟩
abbrev cX10_count : ByteArray := prog_12_method_65_code
def yX10_count : MethodName := ⟨RX10, "count", "(I)I"⟩
abbrev cX10_undo : ByteArray := prog_12_method_66_code
def yX10_undo : MethodName := ⟨RX10, "undo", "()I"⟩
abbrev cX10_type : ByteArray := prog_12_method_67_code
def yX10_type : MethodName := ⟨RX10, "type", "(I)I"⟩
abbrev cX10_clearText : ByteArray := prog_12_method_68_code
def yX10_clearText : MethodName := ⟨RX10, "clearText", "()I"⟩
abbrev cX10_signAt : ByteArray := prog_12_method_69_code
def yX10_signAt : MethodName := ⟨RX10, "signAt", "(I)I"⟩
abbrev cX10_readsNumber : ByteArray := prog_12_method_70_code
def yX10_readsNumber : MethodName := ⟨RX10, "readsNumber", "(I)Z"⟩
abbrev cX10_reads : ByteArray := prog_12_method_71_code
def yX10_reads : MethodName := ⟨RX10, "reads", "(I)Z"⟩
abbrev cX10_does : ByteArray := prog_12_method_72_code
def yX10_does : MethodName := ⟨RX10, "does", "()I"⟩
abbrev cX10_doesAll : ByteArray := prog_12_method_73_code
def yX10_doesAll : MethodName := ⟨RX10, "doesAll", "()I"⟩
abbrev cX10_looks : ByteArray := prog_12_method_74_code
def yX10_looks : MethodName := ⟨RX10, "looks", "()I"⟩
abbrev cX10_fault : ByteArray := prog_12_method_75_code
def yX10_fault : MethodName := ⟨RX10, "fault", "(I)I"⟩
abbrev cX10_play : ByteArray := prog_12_method_76_code
def yX10_play : MethodName := ⟨RX10, "play", "()I"⟩
def RJ10 : String := "java/lang/System"
def TJ10 : u_T := fun k => match k with
  | _ => ("", "", "", false)
def tyJ10 : Nat → FieldType := fun k => match k with
  | _ => .int
abbrev wsJ100 : List Cond := u_ws RJ10 TJ10 0
theorem nmJ10 : ∀ a, a < 0 → ∀ b, b < 0 → a ≠ b → (TJ10 a).2.1 ≠ (TJ10 b).2.1 := by decide +kernel
theorem tyJ10_ok : ∀ k, k < 0 → parseFieldDescriptor (TJ10 k).2.2.1 = some (tyJ10 k) := by decide +kernel
def RL : String := "PaperRoundsLaw"
abbrev cL_law : ByteArray := code
def yL_law : MethodName := ⟨RL, "law", "([I)Z"⟩
def wsL_law_r1 : List Cond := [Cond.classLink RL 7 RX9, Cond.instantiable RX9 5, Cond.initialized RX9, Cond.classLink RL 10 RX10, Cond.instantiable RX10 20, Cond.initialized RX10, Cond.methodLink RL 9 yX9_init, Cond.instanceMethod yX9_init, Cond.code yX9_init cX9_init 1 none, Cond.methodLink RX9 1 objectInit, Cond.instanceMethod objectInit, Cond.code objectInit ⟨#[0xb1]⟩ 1 none, Cond.classLink RX9 7 RX6, Cond.instantiable RX6 8, Cond.initialized RX6, Cond.fieldLink RX9 10 "PaperRounds" "town" "LPaperRounds$Town;", Cond.classLink RX9 16 RX1, Cond.instantiable RX1 3, Cond.initialized RX1, Cond.fieldLink RX9 19 "PaperRounds" "history" "LPaperRounds$History;", Cond.classLink RX9 23 RX8, Cond.instantiable RX8 6, Cond.initialized RX8, Cond.fieldLink RX9 26 "PaperRounds" "walk" "LPaperRounds$Walk;"]
def wsL_law_r2 : List Cond := [Cond.classLink RX9 30 RX5, Cond.instantiable RX5 5, Cond.initialized RX5, Cond.fieldLink RX9 33 "PaperRounds" "text" "LPaperRounds$Text;", Cond.classLink RX9 37 RX7, Cond.instantiable RX7 5, Cond.initialized RX7, Cond.fieldLink RX9 40 "PaperRounds" "trial" "LPaperRounds$Trial;", Cond.instanceMethod yX6_init, Cond.code yX6_init cX6_init 1 none, Cond.methodLink RX6 3 objectInit, Cond.fieldLink RX6 9 "PaperRounds$Town" "day" "I", Cond.fieldLink RX6 15 "PaperRounds$Town" "weight" "I", Cond.fieldLink RX6 18 "PaperRounds$Town" "sundayWeight" "I", Cond.arrayClass .int, Cond.fieldLink RX6 21 "PaperRounds$Town" "accounts" "[I", Cond.classLink RX6 25 RX4, Cond.instantiable RX4 9, Cond.initialized RX4, Cond.fieldLink RX6 28 "PaperRounds$Town" "streets" "LPaperRounds$Streets;", Cond.classLink RX6 32 RX2, Cond.instantiable RX2 15, Cond.initialized RX2, Cond.fieldLink RX6 35 "PaperRounds$Town" "houses" "LPaperRounds$Houses;"]
def wsL_law_r3 : List Cond := [Cond.classLink RX6 39 RX3, Cond.instantiable RX3 4, Cond.initialized RX3, Cond.fieldLink RX6 42 "PaperRounds$Town" "pauses" "LPaperRounds$Pauses;", Cond.classLink RX6 46 RX0, Cond.instantiable RX0 8, Cond.initialized RX0, Cond.fieldLink RX6 49 "PaperRounds$Town" "carriers" "LPaperRounds$Carriers;", Cond.methodLink RX6 27 yX4_init, Cond.instanceMethod yX4_init, Cond.code yX4_init cX4_init 1 none, Cond.methodLink RX4 3 objectInit, Cond.fieldLink RX4 9 "PaperRounds$Streets" "many" "I", Cond.fieldLink RX4 15 "PaperRounds$Streets" "ahead" "[I", Cond.fieldLink RX4 19 "PaperRounds$Streets" "length" "[I", Cond.fieldLink RX4 22 "PaperRounds$Streets" "height" "[I", Cond.fieldLink RX4 25 "PaperRounds$Streets" "stairs" "[I", Cond.fieldLink RX4 28 "PaperRounds$Streets" "depth" "[I", Cond.fieldLink RX4 31 "PaperRounds$Streets" "distance" "[I", Cond.fieldLink RX4 34 "PaperRounds$Streets" "cartsCome" "[I", Cond.fieldLink RX4 37 "PaperRounds$Streets" "order" "[I", Cond.instanceMethod yX2_init, Cond.code yX2_init cX2_init 1 none, Cond.methodLink RX2 3 objectInit]
def wsL_law_r4 : List Cond := [Cond.fieldLink RX2 9 "PaperRounds$Houses" "many" "I", Cond.fieldLink RX2 15 "PaperRounds$Houses" "corner" "[I", Cond.fieldLink RX2 19 "PaperRounds$Houses" "papers" "[I", Cond.fieldLink RX2 22 "PaperRounds$Houses" "tip" "[I", Cond.fieldLink RX2 25 "PaperRounds$Houses" "carrier" "[I", Cond.fieldLink RX2 28 "PaperRounds$Houses" "period" "[I", Cond.fieldLink RX2 31 "PaperRounds$Houses" "phase" "[I", Cond.fieldLink RX2 34 "PaperRounds$Houses" "delivered" "[I", Cond.fieldLink RX2 37 "PaperRounds$Houses" "paused" "[I", Cond.fieldLink RX2 40 "PaperRounds$Houses" "returned" "[I", Cond.fieldLink RX2 43 "PaperRounds$Houses" "lost" "[I", Cond.fieldLink RX2 46 "PaperRounds$Houses" "complaints" "[I", Cond.fieldLink RX2 49 "PaperRounds$Houses" "freshComplaints" "[I", Cond.fieldLink RX2 52 "PaperRounds$Houses" "freshDelivered" "[I", Cond.fieldLink RX2 55 "PaperRounds$Houses" "order" "[I", Cond.instanceMethod yX3_init, Cond.code yX3_init cX3_init 1 none, Cond.methodLink RX3 3 objectInit, Cond.fieldLink RX3 9 "PaperRounds$Pauses" "many" "I", Cond.fieldLink RX3 15 "PaperRounds$Pauses" "house" "[I", Cond.fieldLink RX3 19 "PaperRounds$Pauses" "first" "[I", Cond.fieldLink RX3 22 "PaperRounds$Pauses" "last" "[I", Cond.instanceMethod yX0_init, Cond.code yX0_init cX0_init 1 none]
def wsL_law_r5 : List Cond := [Cond.methodLink RX0 3 objectInit, Cond.fieldLink RX0 9 "PaperRounds$Carriers" "many" "I", Cond.fieldLink RX0 15 "PaperRounds$Carriers" "cart" "[I", Cond.fieldLink RX0 19 "PaperRounds$Carriers" "limit" "[I", Cond.fieldLink RX0 22 "PaperRounds$Carriers" "biscuits" "[I", Cond.fieldLink RX0 25 "PaperRounds$Carriers" "trips" "[I", Cond.fieldLink RX0 28 "PaperRounds$Carriers" "effort" "[I", Cond.fieldLink RX0 31 "PaperRounds$Carriers" "tips" "[I", Cond.fieldLink RX0 34 "PaperRounds$Carriers" "delivered" "[I", Cond.methodLink RX9 18 yX1_init, Cond.instanceMethod yX1_init, Cond.code yX1_init cX1_init 2 none, Cond.methodLink RX1 3 objectInit, Cond.fieldLink RX1 9 "PaperRounds$History" "kept" "I", Cond.fieldLink RX1 15 "PaperRounds$History" "oldest" "I", Cond.classLink RX1 18 RX6, Cond.fieldLink RX1 20 "PaperRounds$History" "rows" "[LPaperRounds$Town;", Cond.instanceMethod yX8_init, Cond.code yX8_init cX8_init 1 none, Cond.methodLink RX8 3 objectInit, Cond.fieldLink RX8 9 "PaperRounds$Walk" "trips" "I", Cond.fieldLink RX8 15 "PaperRounds$Walk" "effort" "I", Cond.fieldLink RX8 18 "PaperRounds$Walk" "papers" "I", Cond.fieldLink RX8 21 "PaperRounds$Walk" "dogs" "I"]
def wsL_law_r6 : List Cond := [Cond.fieldLink RX8 24 "PaperRounds$Walk" "onTrip" "I", Cond.fieldLink RX8 27 "PaperRounds$Walk" "load" "[I", Cond.instanceMethod yX5_init, Cond.code yX5_init cX5_init 1 none, Cond.methodLink RX5 3 objectInit, Cond.fieldLink RX5 9 "PaperRounds$Text" "length" "I", Cond.arrayClass .char, Cond.fieldLink RX5 15 "PaperRounds$Text" "signs" "[C", Cond.fieldLink RX5 19 "PaperRounds$Text" "kind" "C", Cond.fieldLink RX5 23 "PaperRounds$Text" "next" "I", Cond.fieldLink RX5 26 "PaperRounds$Text" "numbers" "[I", Cond.instanceMethod yX7_init, Cond.code yX7_init cX7_init 1 none, Cond.methodLink RX7 3 objectInit, Cond.classLink RX7 9 RX6, Cond.fieldLink RX7 12 "PaperRounds$Trial" "town" "LPaperRounds$Town;", Cond.fieldLink RX7 18 "PaperRounds$Trial" "orders" "I", Cond.fieldLink RX7 22 "PaperRounds$Trial" "position" "I", Cond.fieldLink RX7 25 "PaperRounds$Trial" "reason" "I", Cond.fieldLink RX7 28 "PaperRounds$Trial" "cause" "I", Cond.methodLink RL 12 yX10_init, Cond.instanceMethod yX10_init, Cond.code yX10_init cX10_init 1 none, Cond.methodLink RX10 1 objectInit]
def wsL_law_r7 : List Cond := [Cond.fieldLink RX10 7 "PaperRoundsModel" "now" "[I", Cond.fieldLink RX10 13 "PaperRoundsModel" "past" "[I", Cond.fieldLink RX10 16 "PaperRoundsModel" "before" "[I", Cond.fieldLink RX10 19 "PaperRoundsModel" "tried" "[I", Cond.fieldLink RX10 22 "PaperRoundsModel" "text" "[I", Cond.fieldLink RX10 25 "PaperRoundsModel" "corners" "[I", Cond.fieldLink RX10 28 "PaperRoundsModel" "row" "[I", Cond.fieldLink RX10 31 "PaperRoundsModel" "weights" "[I", Cond.fieldLink RX10 34 "PaperRoundsModel" "numbers" "[I", Cond.methodLink RL 13 yX9_corner, Cond.instanceMethod yX9_corner, Cond.selects RX9 yX9_corner yX9_corner, Cond.code yX9_corner cX9_corner 5 (some .int), Cond.methodLink RX9 44 yX1_prepare, Cond.instanceMethod yX1_prepare, Cond.selects RX1 yX1_prepare yX1_prepare, Cond.code yX1_prepare cX1_prepare 2 none, Cond.methodLink RX1 25 yX6_copyFrom, Cond.instanceMethod yX6_copyFrom, Cond.selects RX6 yX6_copyFrom yX6_copyFrom, Cond.code yX6_copyFrom cX6_copyFrom 2 none, Cond.static yX9_copy, Cond.code yX9_copy cX9_copy 3 none, Cond.methodLink RX9 313 arraycopyName]
def wsL_law_r8 : List Cond := [Cond.native arraycopyName, Cond.static arraycopyName, Cond.initialized "java/lang/System", Cond.methodLink RX6 57 yX4_copyFrom, Cond.instanceMethod yX4_copyFrom, Cond.selects RX4 yX4_copyFrom yX4_copyFrom, Cond.code yX4_copyFrom cX4_copyFrom 2 none, Cond.methodLink RX6 61 yX2_copyFrom, Cond.instanceMethod yX2_copyFrom, Cond.selects RX2 yX2_copyFrom yX2_copyFrom, Cond.code yX2_copyFrom cX2_copyFrom 2 none, Cond.methodLink RX6 64 yX3_copyFrom, Cond.instanceMethod yX3_copyFrom, Cond.selects RX3 yX3_copyFrom yX3_copyFrom, Cond.code yX3_copyFrom cX3_copyFrom 2 none, Cond.methodLink RX6 67 yX0_copyFrom, Cond.instanceMethod yX0_copyFrom, Cond.selects RX0 yX0_copyFrom yX0_copyFrom, Cond.code yX0_copyFrom cX0_copyFrom 2 none, Cond.methodLink RX9 48 yX6_addCorner, Cond.instanceMethod yX6_addCorner, Cond.selects RX6 yX6_addCorner yX6_addCorner, Cond.code yX6_addCorner cX6_addCorner 5 (some .int), Cond.fieldLink RX6 78 "PaperRounds$Streets" "many" "I"]
def wsL_law_r9 : List Cond := [Cond.methodLink RX6 70 yX4_has, Cond.instanceMethod yX4_has, Cond.selects RX4 yX4_has yX4_has, Cond.code yX4_has cX4_has 2 (some .boolean), Cond.static yX9_within, Cond.code yX9_within cX9_within 3 (some .boolean), Cond.methodLink RX6 81 yX4_add, Cond.instanceMethod yX4_add, Cond.selects RX4 yX4_add yX4_add, Cond.code yX4_add cX4_add 6 (some .int), Cond.methodLink RX4 48 yX4_putInOrder, Cond.instanceMethod yX4_putInOrder, Cond.selects RX4 yX4_putInOrder yX4_putInOrder, Cond.code yX4_putInOrder cX4_putInOrder 5 none, Cond.methodLink RX9 52 yX9_settled, Cond.instanceMethod yX9_settled, Cond.selects RX9 yX9_settled yX9_settled, Cond.code yX9_settled cX9_settled 2 (some .int), Cond.methodLink RX9 308 yX1_keepPrepared, Cond.instanceMethod yX1_keepPrepared, Cond.selects RX1 yX1_keepPrepared yX1_keepPrepared, Cond.code yX1_keepPrepared cX1_keepPrepared 1 none, Cond.methodLink RL 17 yX10_corner, Cond.instanceMethod yX10_corner]
def wsL_law_r10 : List Cond := [Cond.selects RX10 yX10_corner yX10_corner, Cond.code yX10_corner cX10_corner 6 (some .int), Cond.methodLink RX10 60 yX10_isCorner, Cond.instanceMethod yX10_isCorner, Cond.selects RX10 yX10_isCorner yX10_isCorner, Cond.code yX10_isCorner cX10_isCorner 2 (some .boolean), Cond.methodLink RX10 45 yX10_in, Cond.static yX10_in, Cond.code yX10_in cX10_in 3 (some .boolean), Cond.methodLink RX10 64 yX10_notes, Cond.instanceMethod yX10_notes, Cond.selects RX10 yX10_notes yX10_notes, Cond.code yX10_notes cX10_notes 1 none, Cond.methodLink RX10 37 yX10_copies, Cond.static yX10_copies, Cond.code yX10_copies cX10_copies 5 none, Cond.methodLink RX10 67 yX10_ends, Cond.instanceMethod yX10_ends, Cond.selects RX10 yX10_ends yX10_ends, Cond.code yX10_ends cX10_ends 3 (some .int), Cond.fieldLink RX10 41 "PaperRoundsModel" "pasts" "I", Cond.methodLink RL 18 yX9_house, Cond.instanceMethod yX9_house, Cond.selects RX9 yX9_house yX9_house]
def wsL_law_r11 : List Cond := [Cond.code yX9_house cX9_house 4 (some .int), Cond.methodLink RX9 56 yX6_addHouse, Cond.instanceMethod yX6_addHouse, Cond.selects RX6 yX6_addHouse yX6_addHouse, Cond.code yX6_addHouse cX6_addHouse 4 (some .int), Cond.fieldLink RX6 85 "PaperRounds$Houses" "many" "I", Cond.methodLink RX6 86 yX2_add, Cond.instanceMethod yX2_add, Cond.selects RX2 yX2_add yX2_add, Cond.code yX2_add cX2_add 6 (some .int), Cond.methodLink RX2 66 yX2_makeOrder, Cond.instanceMethod yX2_makeOrder, Cond.selects RX2 yX2_makeOrder yX2_makeOrder, Cond.code yX2_makeOrder cX2_makeOrder 5 none, Cond.fieldLink RX2 70 "PaperRounds$Streets" "many" "I", Cond.fieldLink RX2 73 "PaperRounds$Streets" "order" "[I", Cond.methodLink RL 22 yX10_house, Cond.instanceMethod yX10_house, Cond.selects RX10 yX10_house yX10_house, Cond.code yX10_house cX10_house 5 (some .int), Cond.methodLink RX10 71 yX10_lays, Cond.instanceMethod yX10_lays, Cond.selects RX10 yX10_lays yX10_lays, Cond.code yX10_lays cX10_lays 4 none]
def wsL_law_r12 : List Cond := [Cond.methodLink RL 23 yX9_dog, Cond.instanceMethod yX9_dog, Cond.selects RX9 yX9_dog yX9_dog, Cond.code yX9_dog cX9_dog 4 (some .int), Cond.methodLink RX9 60 yX6_changeDog, Cond.instanceMethod yX6_changeDog, Cond.selects RX6 yX6_changeDog yX6_changeDog, Cond.code yX6_changeDog cX6_changeDog 6 (some .int), Cond.fieldLink RX6 90 "PaperRounds$Houses" "period" "[I", Cond.fieldLink RX6 93 "PaperRounds$Houses" "phase" "[I", Cond.methodLink RX6 89 yX2_has, Cond.instanceMethod yX2_has, Cond.selects RX2 yX2_has yX2_has, Cond.code yX2_has cX2_has 2 (some .boolean), Cond.methodLink RL 26 yX10_dog, Cond.instanceMethod yX10_dog, Cond.selects RX10 yX10_dog yX10_dog, Cond.code yX10_dog cX10_dog 5 (some .int), Cond.methodLink RX10 75 yX10_isHouse, Cond.instanceMethod yX10_isHouse, Cond.selects RX10 yX10_isHouse yX10_isHouse, Cond.code yX10_isHouse cX10_isHouse 2 (some .boolean), Cond.methodLink RX10 57 yX10_of, Cond.instanceMethod yX10_of]
def wsL_law_r13 : List Cond := [Cond.selects RX10 yX10_of yX10_of, Cond.code yX10_of cX10_of 3 (some .int), Cond.methodLink RL 27 yX9_pause, Cond.instanceMethod yX9_pause, Cond.selects RX9 yX9_pause yX9_pause, Cond.code yX9_pause cX9_pause 4 (some .int), Cond.methodLink RX9 63 yX6_addPause, Cond.instanceMethod yX6_addPause, Cond.selects RX6 yX6_addPause yX6_addPause, Cond.code yX6_addPause cX6_addPause 4 (some .int), Cond.fieldLink RX6 96 "PaperRounds$Pauses" "many" "I", Cond.methodLink RX6 97 yX3_add, Cond.instanceMethod yX3_add, Cond.selects RX3 yX3_add yX3_add, Cond.code yX3_add cX3_add 5 (some .int), Cond.methodLink RL 30 yX10_pause, Cond.instanceMethod yX10_pause, Cond.selects RX10 yX10_pause yX10_pause, Cond.code yX10_pause cX10_pause 4 (some .int), Cond.methodLink RX10 78 yX10_pauses, Cond.instanceMethod yX10_pauses, Cond.selects RX10 yX10_pauses yX10_pauses, Cond.code yX10_pauses cX10_pauses 5 (some .int), Cond.methodLink RL 31 yX9_carrier]
def wsL_law_r14 : List Cond := [Cond.instanceMethod yX9_carrier, Cond.selects RX9 yX9_carrier yX9_carrier, Cond.code yX9_carrier cX9_carrier 3 (some .int), Cond.methodLink RX9 66 yX6_addCarrier, Cond.instanceMethod yX6_addCarrier, Cond.selects RX6 yX6_addCarrier yX6_addCarrier, Cond.code yX6_addCarrier cX6_addCarrier 3 (some .int), Cond.fieldLink RX6 100 "PaperRounds$Carriers" "many" "I", Cond.methodLink RX6 101 yX0_add, Cond.instanceMethod yX0_add, Cond.selects RX0 yX0_add yX0_add, Cond.code yX0_add cX0_add 4 (some .int), Cond.methodLink RL 35 yX10_carrier, Cond.instanceMethod yX10_carrier, Cond.selects RX10 yX10_carrier yX10_carrier, Cond.code yX10_carrier cX10_carrier 3 (some .int), Cond.methodLink RX10 82 yX10_addsCarrier, Cond.instanceMethod yX10_addsCarrier, Cond.selects RX10 yX10_addsCarrier yX10_addsCarrier, Cond.code yX10_addsCarrier cX10_addsCarrier 4 none, Cond.methodLink RL 36 yX9_give, Cond.instanceMethod yX9_give, Cond.selects RX9 yX9_give yX9_give, Cond.code yX9_give cX9_give 3 (some .int)]
def wsL_law_r15 : List Cond := [Cond.methodLink RX9 70 yX6_handOver, Cond.instanceMethod yX6_handOver, Cond.selects RX6 yX6_handOver yX6_handOver, Cond.code yX6_handOver cX6_handOver 3 (some .int), Cond.fieldLink RX6 105 "PaperRounds$Houses" "carrier" "[I", Cond.methodLink RX6 104 yX0_has, Cond.instanceMethod yX0_has, Cond.selects RX0 yX0_has yX0_has, Cond.code yX0_has cX0_has 2 (some .boolean), Cond.methodLink RX6 108 yX6_canReach, Cond.instanceMethod yX6_canReach, Cond.selects RX6 yX6_canReach yX6_canReach, Cond.code yX6_canReach cX6_canReach 3 (some .boolean), Cond.fieldLink RX6 198 "PaperRounds$Carriers" "cart" "[I", Cond.fieldLink RX6 201 "PaperRounds$Streets" "cartsCome" "[I", Cond.fieldLink RX6 204 "PaperRounds$Houses" "corner" "[I", Cond.methodLink RX6 112 yX2_manyOf, Cond.instanceMethod yX2_manyOf, Cond.selects RX2 yX2_manyOf yX2_manyOf, Cond.code yX2_manyOf cX2_manyOf 4 (some .int), Cond.methodLink RL 39 yX10_give, Cond.instanceMethod yX10_give, Cond.selects RX10 yX10_give yX10_give, Cond.code yX10_give cX10_give 3 (some .int)]
def wsL_law_r16 : List Cond := [Cond.methodLink RX10 100 yX10_gives, Cond.instanceMethod yX10_gives, Cond.selects RX10 yX10_gives yX10_gives, Cond.code yX10_gives cX10_gives 3 (some .int), Cond.methodLink RX10 91 yX10_isCarrier, Cond.instanceMethod yX10_isCarrier, Cond.selects RX10 yX10_isCarrier yX10_isCarrier, Cond.code yX10_isCarrier cX10_isCarrier 2 (some .boolean), Cond.methodLink RX10 94 yX10_canReach, Cond.instanceMethod yX10_canReach, Cond.selects RX10 yX10_canReach yX10_canReach, Cond.code yX10_canReach cX10_canReach 3 (some .boolean), Cond.methodLink RX10 85 yX10_ofCarrier, Cond.instanceMethod yX10_ofCarrier, Cond.selects RX10 yX10_ofCarrier yX10_ofCarrier, Cond.code yX10_ofCarrier cX10_ofCarrier 3 (some .int), Cond.methodLink RX10 88 yX10_cartsCome, Cond.instanceMethod yX10_cartsCome, Cond.selects RX10 yX10_cartsCome yX10_cartsCome, Cond.code yX10_cartsCome cX10_cartsCome 4 (some .boolean), Cond.methodLink RX10 49 yX10_ofCorner, Cond.instanceMethod yX10_ofCorner, Cond.selects RX10 yX10_ofCorner yX10_ofCorner, Cond.code yX10_ofCorner cX10_ofCorner 3 (some .int)]
def wsL_law_r17 : List Cond := [Cond.methodLink RX10 97 yX10_housesOf, Cond.instanceMethod yX10_housesOf, Cond.selects RX10 yX10_housesOf yX10_housesOf, Cond.code yX10_housesOf cX10_housesOf 4 (some .int), Cond.methodLink RL 40 yX9_giveNone, Cond.instanceMethod yX9_giveNone, Cond.selects RX9 yX9_giveNone yX9_giveNone, Cond.code yX9_giveNone cX9_giveNone 2 (some .int), Cond.methodLink RX9 73 yX6_takeBack, Cond.instanceMethod yX6_takeBack, Cond.selects RX6 yX6_takeBack yX6_takeBack, Cond.code yX6_takeBack cX6_takeBack 3 (some .int), Cond.methodLink RL 44 yX10_giveNone, Cond.instanceMethod yX10_giveNone, Cond.selects RX10 yX10_giveNone yX10_giveNone, Cond.code yX10_giveNone cX10_giveNone 2 (some .int), Cond.methodLink RX10 103 yX10_givesNone, Cond.instanceMethod yX10_givesNone, Cond.selects RX10 yX10_givesNone yX10_givesNone, Cond.code yX10_givesNone cX10_givesNone 3 (some .int), Cond.methodLink RL 45 yX9_biscuits, Cond.instanceMethod yX9_biscuits, Cond.selects RX9 yX9_biscuits yX9_biscuits, Cond.code yX9_biscuits cX9_biscuits 3 (some .int)]
def wsL_law_r18 : List Cond := [Cond.methodLink RX9 76 yX6_addBiscuits, Cond.instanceMethod yX6_addBiscuits, Cond.selects RX6 yX6_addBiscuits yX6_addBiscuits, Cond.code yX6_addBiscuits cX6_addBiscuits 3 (some .int), Cond.fieldLink RX6 116 "PaperRounds$Carriers" "biscuits" "[I", Cond.methodLink RL 48 yX10_biscuits, Cond.instanceMethod yX10_biscuits, Cond.selects RX10 yX10_biscuits yX10_biscuits, Cond.code yX10_biscuits cX10_biscuits 3 (some .int), Cond.methodLink RX10 106 yX10_addsBiscuits, Cond.instanceMethod yX10_addsBiscuits, Cond.selects RX10 yX10_addsBiscuits yX10_addsBiscuits, Cond.code yX10_addsBiscuits cX10_addsBiscuits 3 (some .int), Cond.methodLink RL 49 yX9_set, Cond.instanceMethod yX9_set, Cond.selects RX9 yX9_set yX9_set, Cond.code yX9_set cX9_set 3 (some .int), Cond.methodLink RX9 79 yX6_changeSetting, Cond.instanceMethod yX6_changeSetting, Cond.selects RX6 yX6_changeSetting yX6_changeSetting, Cond.code yX6_changeSetting cX6_changeSetting 4 (some .int), Cond.methodLink RL 52 yX10_set, Cond.instanceMethod yX10_set, Cond.selects RX10 yX10_set yX10_set]
def wsL_law_r19 : List Cond := [Cond.code yX10_set cX10_set 4 (some .int), Cond.methodLink RL 53 yX9_days, Cond.instanceMethod yX9_days, Cond.selects RX9 yX9_days yX9_days, Cond.code yX9_days cX9_days 2 (some .int), Cond.methodLink RX9 82 yX6_letDaysGo, Cond.instanceMethod yX6_letDaysGo, Cond.selects RX6 yX6_letDaysGo yX6_letDaysGo, Cond.code yX6_letDaysGo cX6_letDaysGo 6 (some .int), Cond.fieldLink RX6 125 "PaperRounds$Carriers" "trips" "[I", Cond.fieldLink RX6 128 "PaperRounds$Walk" "trips" "I", Cond.fieldLink RX6 130 "PaperRounds$Carriers" "effort" "[I", Cond.fieldLink RX6 133 "PaperRounds$Walk" "effort" "I", Cond.methodLink RX6 119 yX8_go, Cond.instanceMethod yX8_go, Cond.selects RX8 yX8_go yX8_go, Cond.code yX8_go cX8_go 12 none, Cond.fieldLink RX8 34 "PaperRounds$Town" "houses" "LPaperRounds$Houses;", Cond.fieldLink RX8 44 "PaperRounds$Town" "carriers" "LPaperRounds$Carriers;", Cond.fieldLink RX8 48 "PaperRounds$Carriers" "limit" "[I", Cond.fieldLink RX8 53 "PaperRounds$Houses" "many" "I", Cond.fieldLink RX8 58 "PaperRounds$Houses" "order" "[I", Cond.fieldLink RX8 61 "PaperRounds$Houses" "papers" "[I", Cond.fieldLink RX8 63 "PaperRounds$Houses" "carrier" "[I"]
def wsL_law_r20 : List Cond := [Cond.fieldLink RX8 66 "PaperRounds$Town" "pauses" "LPaperRounds$Pauses;", Cond.fieldLink RX8 76 "PaperRounds$Town" "streets" "LPaperRounds$Streets;", Cond.fieldLink RX8 80 "PaperRounds$Carriers" "cart" "[I", Cond.fieldLink RX8 87 "PaperRounds$Houses" "corner" "[I", Cond.methodLink RX8 31 yX8_clear, Cond.instanceMethod yX8_clear, Cond.selects RX8 yX8_clear yX8_clear, Cond.code yX8_clear cX8_clear 1 none, Cond.methodLink RX8 40 yX6_weightOn, Cond.instanceMethod yX6_weightOn, Cond.selects RX6 yX6_weightOn yX6_weightOn, Cond.code yX6_weightOn cX6_weightOn 2 (some .int), Cond.methodLink RX6 138 yX6_isSunday, Cond.static yX6_isSunday, Cond.code yX6_isSunday cX6_isSunday 1 (some .boolean), Cond.methodLink RX8 70 yX3_cover, Cond.instanceMethod yX3_cover, Cond.selects RX3 yX3_cover yX3_cover, Cond.code yX3_cover cX3_cover 4 (some .boolean), Cond.methodLink RX8 83 yX8_endTrip, Cond.instanceMethod yX8_endTrip, Cond.selects RX8 yX8_endTrip yX8_endTrip, Cond.code yX8_endTrip cX8_endTrip 4 none, Cond.fieldLink RX8 93 "PaperRounds$Streets" "many" "I"]
def wsL_law_r21 : List Cond := [Cond.fieldLink RX8 100 "PaperRounds$Streets" "ahead" "[I", Cond.methodLink RX8 96 yX4_effortOfStreet, Cond.instanceMethod yX4_effortOfStreet, Cond.selects RX4 yX4_effortOfStreet yX4_effortOfStreet, Cond.code yX4_effortOfStreet cX4_effortOfStreet 7 (some .int), Cond.methodLink RX8 90 yX2_dogIsOut, Cond.instanceMethod yX2_dogIsOut, Cond.selects RX2 yX2_dogIsOut yX2_dogIsOut, Cond.code yX2_dogIsOut cX2_dogIsOut 4 (some .boolean), Cond.methodLink RX6 135 yX6_bringPapers, Cond.instanceMethod yX6_bringPapers, Cond.selects RX6 yX6_bringPapers yX6_bringPapers, Cond.code yX6_bringPapers cX6_bringPapers 5 none, Cond.fieldLink RX6 147 "PaperRounds$Houses" "order" "[I", Cond.fieldLink RX6 150 "PaperRounds$Houses" "papers" "[I", Cond.methodLink RX6 153 yX6_fateOfPapers, Cond.instanceMethod yX6_fateOfPapers, Cond.selects RX6 yX6_fateOfPapers yX6_fateOfPapers, Cond.code yX6_fateOfPapers cX6_fateOfPapers 3 (some .int), Cond.fieldLink RX6 166 "PaperRounds$Carriers" "limit" "[I", Cond.methodLink RX6 160 yX3_cover, Cond.methodLink RX6 163 yX6_weightOn, Cond.methodLink RX6 169 yX2_dogIsOut, Cond.methodLink RX6 156 yX6_book]
def wsL_law_r22 : List Cond := [Cond.instanceMethod yX6_book, Cond.selects RX6 yX6_book yX6_book, Cond.code yX6_book cX6_book 4 none, Cond.fieldLink RX6 172 "PaperRounds$Houses" "paused" "[I", Cond.fieldLink RX6 175 "PaperRounds$Houses" "delivered" "[I", Cond.fieldLink RX6 178 "PaperRounds$Houses" "freshDelivered" "[I", Cond.fieldLink RX6 181 "PaperRounds$Carriers" "delivered" "[I", Cond.fieldLink RX6 182 "PaperRounds$Houses" "lost" "[I", Cond.fieldLink RX6 189 "PaperRounds$Houses" "returned" "[I", Cond.methodLink RX6 185 yX2_complain, Cond.instanceMethod yX2_complain, Cond.selects RX2 yX2_complain yX2_complain, Cond.code yX2_complain cX2_complain 2 none, Cond.methodLink RX6 141 yX6_payTips, Cond.instanceMethod yX6_payTips, Cond.selects RX6 yX6_payTips yX6_payTips, Cond.code yX6_payTips cX6_payTips 3 none, Cond.fieldLink RX6 192 "PaperRounds$Carriers" "tips" "[I", Cond.methodLink RX6 195 yX2_tipNow, Cond.instanceMethod yX2_tipNow, Cond.selects RX2 yX2_tipNow yX2_tipNow, Cond.code yX2_tipNow cX2_tipNow 2 (some .int), Cond.methodLink RX6 144 yX2_beginWeek, Cond.instanceMethod yX2_beginWeek]
def wsL_law_r23 : List Cond := [Cond.selects RX2 yX2_beginWeek yX2_beginWeek, Cond.code yX2_beginWeek cX2_beginWeek 2 none, Cond.methodLink RL 56 yX10_days, Cond.instanceMethod yX10_days, Cond.selects RX10 yX10_days yX10_days, Cond.code yX10_days cX10_days 2 (some .int), Cond.methodLink RX10 161 yX10_daysGo, Cond.instanceMethod yX10_daysGo, Cond.selects RX10 yX10_daysGo yX10_daysGo, Cond.code yX10_daysGo cX10_daysGo 4 (some .int), Cond.methodLink RX10 157 yX10_dayGoes, Cond.instanceMethod yX10_dayGoes, Cond.selects RX10 yX10_dayGoes yX10_dayGoes, Cond.code yX10_dayGoes cX10_dayGoes 4 (some .int), Cond.fieldLink RX10 123 "PaperRoundsModel" "trips" "I", Cond.fieldLink RX10 109 "PaperRoundsModel" "efforts" "I", Cond.methodLink RX10 138 yX10_isPaused, Cond.instanceMethod yX10_isPaused, Cond.selects RX10 yX10_isPaused yX10_isPaused, Cond.code yX10_isPaused cX10_isPaused 6 (some .boolean), Cond.methodLink RX10 115 yX10_become, Cond.instanceMethod yX10_become, Cond.selects RX10 yX10_become yX10_become, Cond.code yX10_become cX10_become 3 none]
def wsL_law_r24 : List Cond := [Cond.methodLink RX10 119 yX10_complains, Cond.instanceMethod yX10_complains, Cond.selects RX10 yX10_complains yX10_complains, Cond.code yX10_complains cX10_complains 2 none, Cond.methodLink RX10 150 yX10_goes, Cond.instanceMethod yX10_goes, Cond.selects RX10 yX10_goes yX10_goes, Cond.code yX10_goes cX10_goes 12 (some .int), Cond.fieldLink RX10 126 "PaperRoundsModel" "loaded" "I", Cond.fieldLink RX10 129 "PaperRoundsModel" "dogs" "I", Cond.methodLink RX10 132 yX10_laysRow, Cond.instanceMethod yX10_laysRow, Cond.selects RX10 yX10_laysRow yX10_laysRow, Cond.code yX10_laysRow cX10_laysRow 4 none, Cond.methodLink RX10 53 yX10_isBeyond, Cond.instanceMethod yX10_isBeyond, Cond.selects RX10 yX10_isBeyond yX10_isBeyond, Cond.code yX10_isBeyond cX10_isBeyond 4 (some .boolean), Cond.methodLink RX10 135 yX10_weightOn, Cond.instanceMethod yX10_weightOn, Cond.selects RX10 yX10_weightOn yX10_weightOn, Cond.code yX10_weightOn cX10_weightOn 3 (some .int), Cond.methodLink RX10 141 yX10_endsTrip, Cond.instanceMethod yX10_endsTrip]
def wsL_law_r25 : List Cond := [Cond.selects RX10 yX10_endsTrip yX10_endsTrip, Cond.code yX10_endsTrip cX10_endsTrip 5 none, Cond.methodLink RX10 144 yX10_loads, Cond.instanceMethod yX10_loads, Cond.selects RX10 yX10_loads yX10_loads, Cond.code yX10_loads cX10_loads 4 none, Cond.methodLink RX10 112 yX10_isOut, Cond.instanceMethod yX10_isOut, Cond.selects RX10 yX10_isOut yX10_isOut, Cond.code yX10_isOut cX10_isOut 4 (some .boolean), Cond.methodLink RX10 147 yX10_delivers, Cond.instanceMethod yX10_delivers, Cond.selects RX10 yX10_delivers yX10_delivers, Cond.code yX10_delivers cX10_delivers 5 (some .boolean), Cond.methodLink RX10 154 yX10_tips, Cond.instanceMethod yX10_tips, Cond.selects RX10 yX10_tips yX10_tips, Cond.code yX10_tips cX10_tips 5 none, Cond.methodLink RL 57 yX9_cornerOf, Cond.instanceMethod yX9_cornerOf, Cond.selects RX9 yX9_cornerOf yX9_cornerOf, Cond.code yX9_cornerOf cX9_cornerOf 4 (some .int), Cond.fieldLink RX9 86 "PaperRounds$Town" "streets" "LPaperRounds$Streets;", Cond.fieldLink RX9 100 "PaperRounds$Streets" "ahead" "[I"]
def wsL_law_r26 : List Cond := [Cond.fieldLink RX9 104 "PaperRounds$Streets" "length" "[I", Cond.fieldLink RX9 107 "PaperRounds$Streets" "height" "[I", Cond.fieldLink RX9 110 "PaperRounds$Streets" "stairs" "[I", Cond.fieldLink RX9 113 "PaperRounds$Streets" "distance" "[I", Cond.fieldLink RX9 119 "PaperRounds$Streets" "cartsCome" "[I", Cond.methodLink RX9 90 yX4_has, Cond.methodLink RX9 96 yX9_within, Cond.methodLink RX9 116 yX6_housesFrom, Cond.instanceMethod yX6_housesFrom, Cond.selects RX6 yX6_housesFrom yX6_housesFrom, Cond.code yX6_housesFrom cX6_housesFrom 4 (some .int), Cond.methodLink RX6 207 yX4_isAtOrBeyond, Cond.instanceMethod yX4_isAtOrBeyond, Cond.selects RX4 yX4_isAtOrBeyond yX4_isAtOrBeyond, Cond.code yX4_isAtOrBeyond cX4_isAtOrBeyond 5 (some .boolean), Cond.methodLink RL 60 yX10_cornerOf, Cond.instanceMethod yX10_cornerOf, Cond.selects RX10 yX10_cornerOf yX10_cornerOf, Cond.code yX10_cornerOf cX10_cornerOf 3 (some .int), Cond.methodLink RX10 164 yX10_farOf, Cond.instanceMethod yX10_farOf, Cond.selects RX10 yX10_farOf yX10_farOf, Cond.code yX10_farOf cX10_farOf 4 (some .int), Cond.methodLink RX10 167 yX10_housesBeyond]
def wsL_law_r27 : List Cond := [Cond.instanceMethod yX10_housesBeyond, Cond.selects RX10 yX10_housesBeyond yX10_housesBeyond, Cond.code yX10_housesBeyond cX10_housesBeyond 4 (some .int), Cond.methodLink RL 61 yX9_houseOf, Cond.instanceMethod yX9_houseOf, Cond.selects RX9 yX9_houseOf yX9_houseOf, Cond.code yX9_houseOf cX9_houseOf 4 (some .int), Cond.fieldLink RX9 122 "PaperRounds$Town" "houses" "LPaperRounds$Houses;", Cond.fieldLink RX9 129 "PaperRounds$Houses" "corner" "[I", Cond.fieldLink RX9 132 "PaperRounds$Houses" "papers" "[I", Cond.fieldLink RX9 135 "PaperRounds$Houses" "tip" "[I", Cond.fieldLink RX9 138 "PaperRounds$Houses" "carrier" "[I", Cond.fieldLink RX9 141 "PaperRounds$Houses" "period" "[I", Cond.fieldLink RX9 144 "PaperRounds$Town" "pauses" "LPaperRounds$Pauses;", Cond.fieldLink RX9 148 "PaperRounds$Town" "day" "I", Cond.fieldLink RX9 158 "PaperRounds$Houses" "delivered" "[I", Cond.fieldLink RX9 161 "PaperRounds$Houses" "paused" "[I", Cond.fieldLink RX9 164 "PaperRounds$Houses" "returned" "[I", Cond.fieldLink RX9 167 "PaperRounds$Houses" "lost" "[I", Cond.fieldLink RX9 170 "PaperRounds$Houses" "complaints" "[I", Cond.fieldLink RX9 173 "PaperRounds$Houses" "freshComplaints" "[I", Cond.methodLink RX9 126 yX2_has, Cond.methodLink RX9 152 yX3_cover, Cond.methodLink RL 64 yX10_houseOf]
def wsL_law_r28 : List Cond := [Cond.instanceMethod yX10_houseOf, Cond.selects RX10 yX10_houseOf yX10_houseOf, Cond.code yX10_houseOf cX10_houseOf 3 (some .int), Cond.methodLink RL 65 yX9_shareBits, Cond.instanceMethod yX9_shareBits, Cond.selects RX9 yX9_shareBits yX9_shareBits, Cond.code yX9_shareBits cX9_shareBits 2 (some .int), Cond.methodLink RX9 176 yX2_papersDue, Cond.instanceMethod yX2_papersDue, Cond.selects RX2 yX2_papersDue yX2_papersDue, Cond.code yX2_papersDue cX2_papersDue 2 (some .int), Cond.methodLink RX9 179 yX2_share, Cond.instanceMethod yX2_share, Cond.selects RX2 yX2_share yX2_share, Cond.code yX2_share cX2_share 3 (some .float), Cond.methodLink RX2 74 yX2_papersDue, Cond.methodLink RX9 183 yX9_bitsOf, Cond.static yX9_bitsOf, Cond.code yX9_bitsOf cX9_bitsOf 4 (some .int), Cond.constantFloat RX9 311 (1258291200), Cond.constant RX9 312 (8388608), Cond.methodLink RL 68 yX10_shareBits, Cond.instanceMethod yX10_shareBits, Cond.selects RX10 yX10_shareBits yX10_shareBits]
def wsL_law_r29 : List Cond := [Cond.code yX10_shareBits cX10_shareBits 2 (some .int), Cond.methodLink RX10 170 yX10_dueOf, Cond.instanceMethod yX10_dueOf, Cond.selects RX10 yX10_dueOf yX10_dueOf, Cond.code yX10_dueOf cX10_dueOf 2 (some .int), Cond.methodLink RX10 174 yX10_shareOf, Cond.instanceMethod yX10_shareOf, Cond.selects RX10 yX10_shareOf yX10_shareOf, Cond.code yX10_shareOf cX10_shareOf 2 (some .float), Cond.methodLink RX10 178 yX10_bitsOf, Cond.static yX10_bitsOf, Cond.code yX10_bitsOf cX10_bitsOf 3 (some .int), Cond.constantFloat RX10 173 (1258291200), Cond.methodLink RL 69 yX9_meanBits, Cond.instanceMethod yX9_meanBits, Cond.selects RX9 yX9_meanBits yX9_meanBits, Cond.code yX9_meanBits cX9_meanBits 5 (some .int), Cond.fieldLink RX9 187 "PaperRounds$Houses" "many" "I", Cond.methodLink RL 73 yX10_meanBits, Cond.instanceMethod yX10_meanBits, Cond.selects RX10 yX10_meanBits yX10_meanBits, Cond.code yX10_meanBits cX10_meanBits 5 (some .int), Cond.methodLink RL 74 yX9_carrierOf, Cond.instanceMethod yX9_carrierOf]
def wsL_law_r30 : List Cond := [Cond.selects RX9 yX9_carrierOf yX9_carrierOf, Cond.code yX9_carrierOf cX9_carrierOf 4 (some .int), Cond.fieldLink RX9 190 "PaperRounds$Town" "carriers" "LPaperRounds$Carriers;", Cond.fieldLink RX9 197 "PaperRounds$Carriers" "cart" "[I", Cond.fieldLink RX9 200 "PaperRounds$Carriers" "limit" "[I", Cond.fieldLink RX9 203 "PaperRounds$Carriers" "biscuits" "[I", Cond.fieldLink RX9 209 "PaperRounds$Carriers" "trips" "[I", Cond.fieldLink RX9 212 "PaperRounds$Carriers" "effort" "[I", Cond.fieldLink RX9 215 "PaperRounds$Carriers" "tips" "[I", Cond.fieldLink RX9 218 "PaperRounds$Carriers" "delivered" "[I", Cond.methodLink RX9 194 yX0_has, Cond.methodLink RX9 206 yX2_manyOf, Cond.methodLink RL 77 yX10_carrierOf, Cond.instanceMethod yX10_carrierOf, Cond.selects RX10 yX10_carrierOf yX10_carrierOf, Cond.code yX10_carrierOf cX10_carrierOf 3 (some .int), Cond.methodLink RL 78 yX9_pauseOf, Cond.instanceMethod yX9_pauseOf, Cond.selects RX9 yX9_pauseOf yX9_pauseOf, Cond.code yX9_pauseOf cX9_pauseOf 4 (some .int), Cond.fieldLink RX9 219 "PaperRounds$Pauses" "many" "I", Cond.fieldLink RX9 220 "PaperRounds$Pauses" "house" "[I", Cond.fieldLink RX9 223 "PaperRounds$Pauses" "first" "[I", Cond.fieldLink RX9 226 "PaperRounds$Pauses" "last" "[I"]
def wsL_law_r31 : List Cond := [Cond.methodLink RL 81 yX10_pauseOf, Cond.instanceMethod yX10_pauseOf, Cond.selects RX10 yX10_pauseOf yX10_pauseOf, Cond.code yX10_pauseOf cX10_pauseOf 3 (some .int), Cond.methodLink RL 82 yX9_roundAt, Cond.instanceMethod yX9_roundAt, Cond.selects RX9 yX9_roundAt yX9_roundAt, Cond.code yX9_roundAt cX9_roundAt 7 (some .int), Cond.fieldLink RX9 229 "PaperRounds$Houses" "order" "[I", Cond.methodLink RL 85 yX10_roundAt, Cond.instanceMethod yX10_roundAt, Cond.selects RX10 yX10_roundAt yX10_roundAt, Cond.code yX10_roundAt cX10_roundAt 5 (some .int), Cond.methodLink RL 86 yX9_round, Cond.instanceMethod yX9_round, Cond.selects RX9 yX9_round yX9_round, Cond.code yX9_round cX9_round 4 (some .int), Cond.fieldLink RX9 236 "PaperRounds$Walk" "trips" "I", Cond.fieldLink RX9 238 "PaperRounds$Walk" "effort" "I", Cond.fieldLink RX9 240 "PaperRounds$Walk" "papers" "I", Cond.fieldLink RX9 242 "PaperRounds$Walk" "dogs" "I", Cond.methodLink RX9 232 yX8_go, Cond.methodLink RL 89 yX10_round, Cond.instanceMethod yX10_round]
def wsL_law_r32 : List Cond := [Cond.selects RX10 yX10_round yX10_round, Cond.code yX10_round cX10_round 5 (some .int), Cond.methodLink RL 90 yX9_lightest, Cond.instanceMethod yX9_lightest, Cond.selects RX9 yX9_lightest yX9_lightest, Cond.code yX9_lightest cX9_lightest 7 (some .int), Cond.fieldLink RX9 245 "PaperRounds$Carriers" "many" "I", Cond.methodLink RX9 246 yX6_canReach, Cond.methodLink RX9 249 yX8_moreEffort, Cond.instanceMethod yX8_moreEffort, Cond.selects RX8 yX8_moreEffort yX8_moreEffort, Cond.code yX8_moreEffort cX8_moreEffort 6 (some .int), Cond.methodLink RX8 103 yX8_go, Cond.methodLink RL 93 yX10_lightest, Cond.instanceMethod yX10_lightest, Cond.selects RX10 yX10_lightest yX10_lightest, Cond.code yX10_lightest cX10_lightest 8 (some .int), Cond.methodLink RX10 182 yX10_moreBy, Cond.instanceMethod yX10_moreBy, Cond.selects RX10 yX10_moreBy yX10_moreBy, Cond.code yX10_moreBy cX10_moreBy 7 (some .int), Cond.methodLink RL 94 yX9_nextDog, Cond.instanceMethod yX9_nextDog, Cond.selects RX9 yX9_nextDog yX9_nextDog]
def wsL_law_r33 : List Cond := [Cond.code yX9_nextDog cX9_nextDog 3 (some .int), Cond.methodLink RX9 253 yX2_dogIsOut, Cond.methodLink RL 97 yX10_nextDog, Cond.instanceMethod yX10_nextDog, Cond.selects RX10 yX10_nextDog yX10_nextDog, Cond.code yX10_nextDog cX10_nextDog 3 (some .int), Cond.methodLink RL 98 yX9_account, Cond.instanceMethod yX9_account, Cond.selects RX9 yX9_account yX9_account, Cond.code yX9_account cX9_account 2 (some .int), Cond.fieldLink RX9 256 "PaperRounds$Town" "accounts" "[I", Cond.methodLink RL 101 yX10_account, Cond.instanceMethod yX10_account, Cond.selects RX10 yX10_account yX10_account, Cond.code yX10_account cX10_account 2 (some .int), Cond.methodLink RX10 185 yX10_overHouses, Cond.instanceMethod yX10_overHouses, Cond.selects RX10 yX10_overHouses yX10_overHouses, Cond.code yX10_overHouses cX10_overHouses 4 (some .int), Cond.methodLink RL 102 yX9_count, Cond.instanceMethod yX9_count, Cond.selects RX9 yX9_count yX9_count, Cond.code yX9_count cX9_count 2 (some .int), Cond.fieldLink RX9 259 "PaperRounds$Streets" "many" "I"]
def wsL_law_r34 : List Cond := [Cond.fieldLink RX9 270 "PaperRounds$History" "kept" "I", Cond.fieldLink RX9 273 "PaperRounds$Text" "length" "I", Cond.fieldLink RX9 275 "PaperRounds$Town" "weight" "I", Cond.fieldLink RX9 278 "PaperRounds$Town" "sundayWeight" "I", Cond.methodLink RX9 260 yX6_housesPaused, Cond.instanceMethod yX6_housesPaused, Cond.selects RX6 yX6_housesPaused yX6_housesPaused, Cond.code yX6_housesPaused cX6_housesPaused 3 (some .int), Cond.methodLink RX9 264 yX2_allComplaints, Cond.instanceMethod yX2_allComplaints, Cond.selects RX2 yX2_allComplaints yX2_allComplaints, Cond.code yX2_allComplaints cX2_allComplaints 3 (some .int), Cond.methodLink RX9 267 yX0_allTips, Cond.instanceMethod yX0_allTips, Cond.selects RX0 yX0_allTips yX0_allTips, Cond.code yX0_allTips cX0_allTips 3 (some .int), Cond.methodLink RL 105 yX10_count, Cond.instanceMethod yX10_count, Cond.selects RX10 yX10_count yX10_count, Cond.code yX10_count cX10_count 2 (some .int), Cond.fieldLink RX10 194 "PaperRoundsModel" "typed" "I", Cond.methodLink RX10 188 yX10_pausedNow, Cond.instanceMethod yX10_pausedNow, Cond.selects RX10 yX10_pausedNow yX10_pausedNow]
def wsL_law_r35 : List Cond := [Cond.code yX10_pausedNow cX10_pausedNow 3 (some .int), Cond.methodLink RX10 191 yX10_tipsAll, Cond.instanceMethod yX10_tipsAll, Cond.selects RX10 yX10_tipsAll yX10_tipsAll, Cond.code yX10_tipsAll cX10_tipsAll 3 (some .int), Cond.methodLink RL 106 yX9_undo, Cond.instanceMethod yX9_undo, Cond.selects RX9 yX9_undo yX9_undo, Cond.code yX9_undo cX9_undo 1 (some .int), Cond.methodLink RX9 281 yX1_restoreInto, Cond.instanceMethod yX1_restoreInto, Cond.selects RX1 yX1_restoreInto yX1_restoreInto, Cond.code yX1_restoreInto cX1_restoreInto 2 none, Cond.methodLink RL 109 yX10_undo, Cond.instanceMethod yX10_undo, Cond.selects RX10 yX10_undo yX10_undo, Cond.code yX10_undo cX10_undo 1 (some .int), Cond.methodLink RL 110 yX9_type, Cond.instanceMethod yX9_type, Cond.selects RX9 yX9_type yX9_type, Cond.code yX9_type cX9_type 2 (some .int), Cond.methodLink RX9 284 yX5_append, Cond.instanceMethod yX5_append, Cond.selects RX5 yX5_append yX5_append]
def wsL_law_r36 : List Cond := [Cond.code yX5_append cX5_append 2 (some .int), Cond.methodLink RL 113 yX10_type, Cond.instanceMethod yX10_type, Cond.selects RX10 yX10_type yX10_type, Cond.code yX10_type cX10_type 2 (some .int), Cond.methodLink RL 114 yX9_clearText, Cond.instanceMethod yX9_clearText, Cond.selects RX9 yX9_clearText yX9_clearText, Cond.code yX9_clearText cX9_clearText 2 (some .int), Cond.methodLink RL 117 yX10_clearText, Cond.instanceMethod yX10_clearText, Cond.selects RX10 yX10_clearText yX10_clearText, Cond.code yX10_clearText cX10_clearText 2 (some .int), Cond.methodLink RL 118 yX9_fault, Cond.instanceMethod yX9_fault, Cond.selects RX9 yX9_fault yX9_fault, Cond.code yX9_fault cX9_fault 2 (some .int), Cond.fieldLink RX9 292 "PaperRounds$Trial" "reason" "I", Cond.fieldLink RX9 295 "PaperRounds$Trial" "position" "I", Cond.fieldLink RX9 298 "PaperRounds$Trial" "cause" "I", Cond.methodLink RX9 288 yX7_run, Cond.instanceMethod yX7_run, Cond.selects RX7 yX7_run yX7_run, Cond.code yX7_run cX7_run 5 none]
def wsL_law_r37 : List Cond := [Cond.fieldLink RX7 35 "PaperRounds$Text" "length" "I", Cond.fieldLink RX7 44 "PaperRounds$Text" "kind" "C", Cond.fieldLink RX7 48 "PaperRounds$Text" "numbers" "[I", Cond.fieldLink RX7 56 "PaperRounds$Text" "next" "I", Cond.methodLink RX7 31 yX6_copyFrom, Cond.methodLink RX7 40 yX5_readOrder, Cond.instanceMethod yX5_readOrder, Cond.selects RX5 yX5_readOrder yX5_readOrder, Cond.code yX5_readOrder cX5_readOrder 5 (some .boolean), Cond.methodLink RX5 34 yX5_numbersOf, Cond.static yX5_numbersOf, Cond.code yX5_numbersOf cX5_numbersOf 1 (some .int), Cond.methodLink RX5 38 yX5_readNumber, Cond.instanceMethod yX5_readNumber, Cond.selects RX5 yX5_readNumber yX5_readNumber, Cond.code yX5_readNumber cX5_readNumber 3 (some .int), Cond.methodLink RX5 42 yX5_readSign, Cond.instanceMethod yX5_readSign, Cond.selects RX5 yX5_readSign yX5_readSign, Cond.code yX5_readSign cX5_readSign 2 (some .boolean), Cond.methodLink RX7 52 yX7_answerOf, Cond.instanceMethod yX7_answerOf, Cond.selects RX7 yX7_answerOf yX7_answerOf, Cond.code yX7_answerOf cX7_answerOf 4 (some .int)]
def wsL_law_r38 : List Cond := [Cond.methodLink RX7 59 yX6_addPause, Cond.methodLink RX7 63 yX6_handOver, Cond.methodLink RX7 67 yX6_takeBack, Cond.methodLink RX7 71 yX6_addBiscuits, Cond.methodLink RX7 74 yX6_letDaysGo, Cond.methodLink RL 121 yX10_fault, Cond.instanceMethod yX10_fault, Cond.selects RX10 yX10_fault yX10_fault, Cond.code yX10_fault cX10_fault 3 (some .int), Cond.fieldLink RX10 215 "PaperRoundsModel" "faultAt" "I", Cond.fieldLink RX10 212 "PaperRoundsModel" "cause" "I", Cond.methodLink RX10 227 yX10_looks, Cond.instanceMethod yX10_looks, Cond.selects RX10 yX10_looks yX10_looks, Cond.code yX10_looks cX10_looks 2 (some .int), Cond.methodLink RX10 224 yX10_doesAll, Cond.instanceMethod yX10_doesAll, Cond.selects RX10 yX10_doesAll yX10_doesAll, Cond.code yX10_doesAll cX10_doesAll 3 (some .int), Cond.fieldLink RX10 209 "PaperRoundsModel" "orders" "I", Cond.fieldLink RX10 197 "PaperRoundsModel" "at" "I", Cond.methodLink RX10 218 yX10_reads, Cond.instanceMethod yX10_reads, Cond.selects RX10 yX10_reads yX10_reads]
def wsL_law_r39 : List Cond := [Cond.code yX10_reads cX10_reads 5 (some .boolean), Cond.fieldLink RX10 203 "PaperRoundsModel" "letter" "I", Cond.methodLink RX10 200 yX10_signAt, Cond.instanceMethod yX10_signAt, Cond.selects RX10 yX10_signAt yX10_signAt, Cond.code yX10_signAt cX10_signAt 2 (some .int), Cond.methodLink RX10 206 yX10_readsNumber, Cond.instanceMethod yX10_readsNumber, Cond.selects RX10 yX10_readsNumber yX10_readsNumber, Cond.code yX10_readsNumber cX10_readsNumber 4 (some .boolean), Cond.methodLink RX10 221 yX10_does, Cond.instanceMethod yX10_does, Cond.selects RX10 yX10_does yX10_does, Cond.code yX10_does cX10_does 1 (some .int), Cond.methodLink RL 122 yX9_play, Cond.instanceMethod yX9_play, Cond.selects RX9 yX9_play yX9_play, Cond.code yX9_play cX9_play 1 (some .int), Cond.fieldLink RX9 301 "PaperRounds$Trial" "town" "LPaperRounds$Town;", Cond.fieldLink RX9 305 "PaperRounds$Trial" "orders" "I", Cond.methodLink RX9 302 yX6_copyFrom, Cond.methodLink RL 125 yX10_play, Cond.instanceMethod yX10_play, Cond.selects RX10 yX10_play yX10_play]
def wsL_law_r40 : List Cond := [Cond.code yX10_play cX10_play 2 (some .int)]
def wsL_law : List Cond := (wsL_law_r1 ++ (wsL_law_r2 ++ (wsL_law_r3 ++ (wsL_law_r4 ++ (wsL_law_r5 ++ (wsL_law_r6 ++ (wsL_law_r7 ++ (wsL_law_r8 ++ (wsL_law_r9 ++ (wsL_law_r10 ++ (wsL_law_r11 ++ (wsL_law_r12 ++ (wsL_law_r13 ++ (wsL_law_r14 ++ (wsL_law_r15 ++ (wsL_law_r16 ++ (wsL_law_r17 ++ (wsL_law_r18 ++ (wsL_law_r19 ++ (wsL_law_r20 ++ (wsL_law_r21 ++ (wsL_law_r22 ++ (wsL_law_r23 ++ (wsL_law_r24 ++ (wsL_law_r25 ++ (wsL_law_r26 ++ (wsL_law_r27 ++ (wsL_law_r28 ++ (wsL_law_r29 ++ (wsL_law_r30 ++ (wsL_law_r31 ++ (wsL_law_r32 ++ (wsL_law_r33 ++ (wsL_law_r34 ++ (wsL_law_r35 ++ (wsL_law_r36 ++ (wsL_law_r37 ++ (wsL_law_r38 ++ (wsL_law_r39 ++ wsL_law_r40))))))))))))))))))))))))))))))))))))))) ++ wsX90 ++ wsX100 ++ wsX60 ++ wsX10 ++ wsX80 ++ wsX50 ++ wsX70 ++ wsX40 ++ wsX20 ++ wsX30 ++ wsX00 ++ ([] : List Cond)
theorem inlX0 : ∀ w ∈ wsX00, w ∈ wsL_law := fun _ h => List.mem_append_left _ (List.mem_append_right _ h)
theorem inlX1 : ∀ w ∈ wsX10, w ∈ wsL_law := fun _ h => List.mem_append_left _ (List.mem_append_left _ (List.mem_append_left _ (List.mem_append_left _ (List.mem_append_left _ (List.mem_append_left _ (List.mem_append_left _ (List.mem_append_left _ (List.mem_append_right _ h))))))))
theorem inlX2 : ∀ w ∈ wsX20, w ∈ wsL_law := fun _ h => List.mem_append_left _ (List.mem_append_left _ (List.mem_append_left _ (List.mem_append_right _ h)))
theorem inlX3 : ∀ w ∈ wsX30, w ∈ wsL_law := fun _ h => List.mem_append_left _ (List.mem_append_left _ (List.mem_append_right _ h))
theorem inlX4 : ∀ w ∈ wsX40, w ∈ wsL_law := fun _ h => List.mem_append_left _ (List.mem_append_left _ (List.mem_append_left _ (List.mem_append_left _ (List.mem_append_right _ h))))
theorem inlX5 : ∀ w ∈ wsX50, w ∈ wsL_law := fun _ h => List.mem_append_left _ (List.mem_append_left _ (List.mem_append_left _ (List.mem_append_left _ (List.mem_append_left _ (List.mem_append_left _ (List.mem_append_right _ h))))))
theorem inlX6 : ∀ w ∈ wsX60, w ∈ wsL_law := fun _ h => List.mem_append_left _ (List.mem_append_left _ (List.mem_append_left _ (List.mem_append_left _ (List.mem_append_left _ (List.mem_append_left _ (List.mem_append_left _ (List.mem_append_left _ (List.mem_append_left _ (List.mem_append_right _ h)))))))))
theorem inlX7 : ∀ w ∈ wsX70, w ∈ wsL_law := fun _ h => List.mem_append_left _ (List.mem_append_left _ (List.mem_append_left _ (List.mem_append_left _ (List.mem_append_left _ (List.mem_append_right _ h)))))
theorem inlX8 : ∀ w ∈ wsX80, w ∈ wsL_law := fun _ h => List.mem_append_left _ (List.mem_append_left _ (List.mem_append_left _ (List.mem_append_left _ (List.mem_append_left _ (List.mem_append_left _ (List.mem_append_left _ (List.mem_append_right _ h)))))))
theorem inlX9 : ∀ w ∈ wsX90, w ∈ wsL_law := fun _ h => List.mem_append_left _ (List.mem_append_left _ (List.mem_append_left _ (List.mem_append_left _ (List.mem_append_left _ (List.mem_append_left _ (List.mem_append_left _ (List.mem_append_left _ (List.mem_append_left _ (List.mem_append_left _ (List.mem_append_left _ (List.mem_append_right _ h)))))))))))
theorem inlX10 : ∀ w ∈ wsX100, w ∈ wsL_law := fun _ h => List.mem_append_left _ (List.mem_append_left _ (List.mem_append_left _ (List.mem_append_left _ (List.mem_append_left _ (List.mem_append_left _ (List.mem_append_left _ (List.mem_append_left _ (List.mem_append_left _ (List.mem_append_left _ (List.mem_append_right _ h))))))))))
abbrev vwCl : List vw_C := [(RX0, TX0, 8), (RX1, TX1, 3), (RX2, TX2, 15), (RX3, TX3, 4), (RX4, TX4, 9), (RX5, TX5, 5), (RX6, TX6, 8), (RX7, TX7, 5), (RX8, TX8, 6), (RX9, TX9, 5), (RX10, TX10, 20)]
theorem wsL_c1 : ∀ w ∈ wsL_law_r1, w ∈ wsL_law := fun _ h => List.mem_append_left _ (List.mem_append_left _ (List.mem_append_left _ (List.mem_append_left _ (List.mem_append_left _ (List.mem_append_left _ (List.mem_append_left _ (List.mem_append_left _ (List.mem_append_left _ (List.mem_append_left _ (List.mem_append_left _ (List.mem_append_left _ (List.mem_append_left _ h))))))))))))
theorem wsL_c2 : ∀ w ∈ wsL_law_r2, w ∈ wsL_law := fun _ h => List.mem_append_left _ (List.mem_append_left _ (List.mem_append_left _ (List.mem_append_left _ (List.mem_append_left _ (List.mem_append_left _ (List.mem_append_left _ (List.mem_append_left _ (List.mem_append_left _ (List.mem_append_left _ (List.mem_append_left _ (List.mem_append_left _ (List.mem_append_right _ (List.mem_append_left _ h)))))))))))))
theorem wsL_c3 : ∀ w ∈ wsL_law_r3, w ∈ wsL_law := fun _ h => List.mem_append_left _ (List.mem_append_left _ (List.mem_append_left _ (List.mem_append_left _ (List.mem_append_left _ (List.mem_append_left _ (List.mem_append_left _ (List.mem_append_left _ (List.mem_append_left _ (List.mem_append_left _ (List.mem_append_left _ (List.mem_append_left _ (List.mem_append_right _ (List.mem_append_right _ (List.mem_append_left _ h))))))))))))))
theorem wsL_c4 : ∀ w ∈ wsL_law_r4, w ∈ wsL_law := fun _ h => List.mem_append_left _ (List.mem_append_left _ (List.mem_append_left _ (List.mem_append_left _ (List.mem_append_left _ (List.mem_append_left _ (List.mem_append_left _ (List.mem_append_left _ (List.mem_append_left _ (List.mem_append_left _ (List.mem_append_left _ (List.mem_append_left _ (List.mem_append_right _ (List.mem_append_right _ (List.mem_append_right _ (List.mem_append_left _ h)))))))))))))))
theorem wsL_c5 : ∀ w ∈ wsL_law_r5, w ∈ wsL_law := fun _ h => List.mem_append_left _ (List.mem_append_left _ (List.mem_append_left _ (List.mem_append_left _ (List.mem_append_left _ (List.mem_append_left _ (List.mem_append_left _ (List.mem_append_left _ (List.mem_append_left _ (List.mem_append_left _ (List.mem_append_left _ (List.mem_append_left _ (List.mem_append_right _ (List.mem_append_right _ (List.mem_append_right _ (List.mem_append_right _ (List.mem_append_left _ h))))))))))))))))
theorem wsL_c6 : ∀ w ∈ wsL_law_r6, w ∈ wsL_law := fun _ h => List.mem_append_left _ (List.mem_append_left _ (List.mem_append_left _ (List.mem_append_left _ (List.mem_append_left _ (List.mem_append_left _ (List.mem_append_left _ (List.mem_append_left _ (List.mem_append_left _ (List.mem_append_left _ (List.mem_append_left _ (List.mem_append_left _ (List.mem_append_right _ (List.mem_append_right _ (List.mem_append_right _ (List.mem_append_right _ (List.mem_append_right _ (List.mem_append_left _ h)))))))))))))))))
theorem wsL_c7 : ∀ w ∈ wsL_law_r7, w ∈ wsL_law := fun _ h => List.mem_append_left _ (List.mem_append_left _ (List.mem_append_left _ (List.mem_append_left _ (List.mem_append_left _ (List.mem_append_left _ (List.mem_append_left _ (List.mem_append_left _ (List.mem_append_left _ (List.mem_append_left _ (List.mem_append_left _ (List.mem_append_left _ (List.mem_append_right _ (List.mem_append_right _ (List.mem_append_right _ (List.mem_append_right _ (List.mem_append_right _ (List.mem_append_right _ (List.mem_append_left _ h))))))))))))))))))
theorem wsL_c8 : ∀ w ∈ wsL_law_r8, w ∈ wsL_law := fun _ h => List.mem_append_left _ (List.mem_append_left _ (List.mem_append_left _ (List.mem_append_left _ (List.mem_append_left _ (List.mem_append_left _ (List.mem_append_left _ (List.mem_append_left _ (List.mem_append_left _ (List.mem_append_left _ (List.mem_append_left _ (List.mem_append_left _ (List.mem_append_right _ (List.mem_append_right _ (List.mem_append_right _ (List.mem_append_right _ (List.mem_append_right _ (List.mem_append_right _ (List.mem_append_right _ (List.mem_append_left _ h)))))))))))))))))))
theorem wsL_c9 : ∀ w ∈ wsL_law_r9, w ∈ wsL_law := fun _ h => List.mem_append_left _ (List.mem_append_left _ (List.mem_append_left _ (List.mem_append_left _ (List.mem_append_left _ (List.mem_append_left _ (List.mem_append_left _ (List.mem_append_left _ (List.mem_append_left _ (List.mem_append_left _ (List.mem_append_left _ (List.mem_append_left _ (List.mem_append_right _ (List.mem_append_right _ (List.mem_append_right _ (List.mem_append_right _ (List.mem_append_right _ (List.mem_append_right _ (List.mem_append_right _ (List.mem_append_right _ (List.mem_append_left _ h))))))))))))))))))))
theorem wsL_c10 : ∀ w ∈ wsL_law_r10, w ∈ wsL_law := fun _ h => List.mem_append_left _ (List.mem_append_left _ (List.mem_append_left _ (List.mem_append_left _ (List.mem_append_left _ (List.mem_append_left _ (List.mem_append_left _ (List.mem_append_left _ (List.mem_append_left _ (List.mem_append_left _ (List.mem_append_left _ (List.mem_append_left _ (List.mem_append_right _ (List.mem_append_right _ (List.mem_append_right _ (List.mem_append_right _ (List.mem_append_right _ (List.mem_append_right _ (List.mem_append_right _ (List.mem_append_right _ (List.mem_append_right _ (List.mem_append_left _ h)))))))))))))))))))))
theorem wsL_c11 : ∀ w ∈ wsL_law_r11, w ∈ wsL_law := fun _ h => List.mem_append_left _ (List.mem_append_left _ (List.mem_append_left _ (List.mem_append_left _ (List.mem_append_left _ (List.mem_append_left _ (List.mem_append_left _ (List.mem_append_left _ (List.mem_append_left _ (List.mem_append_left _ (List.mem_append_left _ (List.mem_append_left _ (List.mem_append_right _ (List.mem_append_right _ (List.mem_append_right _ (List.mem_append_right _ (List.mem_append_right _ (List.mem_append_right _ (List.mem_append_right _ (List.mem_append_right _ (List.mem_append_right _ (List.mem_append_right _ (List.mem_append_left _ h))))))))))))))))))))))
theorem wsL_c12 : ∀ w ∈ wsL_law_r12, w ∈ wsL_law := fun _ h => List.mem_append_left _ (List.mem_append_left _ (List.mem_append_left _ (List.mem_append_left _ (List.mem_append_left _ (List.mem_append_left _ (List.mem_append_left _ (List.mem_append_left _ (List.mem_append_left _ (List.mem_append_left _ (List.mem_append_left _ (List.mem_append_left _ (List.mem_append_right _ (List.mem_append_right _ (List.mem_append_right _ (List.mem_append_right _ (List.mem_append_right _ (List.mem_append_right _ (List.mem_append_right _ (List.mem_append_right _ (List.mem_append_right _ (List.mem_append_right _ (List.mem_append_right _ (List.mem_append_left _ h)))))))))))))))))))))))
theorem wsL_c13 : ∀ w ∈ wsL_law_r13, w ∈ wsL_law := fun _ h => List.mem_append_left _ (List.mem_append_left _ (List.mem_append_left _ (List.mem_append_left _ (List.mem_append_left _ (List.mem_append_left _ (List.mem_append_left _ (List.mem_append_left _ (List.mem_append_left _ (List.mem_append_left _ (List.mem_append_left _ (List.mem_append_left _ (List.mem_append_right _ (List.mem_append_right _ (List.mem_append_right _ (List.mem_append_right _ (List.mem_append_right _ (List.mem_append_right _ (List.mem_append_right _ (List.mem_append_right _ (List.mem_append_right _ (List.mem_append_right _ (List.mem_append_right _ (List.mem_append_right _ (List.mem_append_left _ h))))))))))))))))))))))))
theorem wsL_c14 : ∀ w ∈ wsL_law_r14, w ∈ wsL_law := fun _ h => List.mem_append_left _ (List.mem_append_left _ (List.mem_append_left _ (List.mem_append_left _ (List.mem_append_left _ (List.mem_append_left _ (List.mem_append_left _ (List.mem_append_left _ (List.mem_append_left _ (List.mem_append_left _ (List.mem_append_left _ (List.mem_append_left _ (List.mem_append_right _ (List.mem_append_right _ (List.mem_append_right _ (List.mem_append_right _ (List.mem_append_right _ (List.mem_append_right _ (List.mem_append_right _ (List.mem_append_right _ (List.mem_append_right _ (List.mem_append_right _ (List.mem_append_right _ (List.mem_append_right _ (List.mem_append_right _ (List.mem_append_left _ h)))))))))))))))))))))))))
theorem wsL_c15 : ∀ w ∈ wsL_law_r15, w ∈ wsL_law := fun _ h => List.mem_append_left _ (List.mem_append_left _ (List.mem_append_left _ (List.mem_append_left _ (List.mem_append_left _ (List.mem_append_left _ (List.mem_append_left _ (List.mem_append_left _ (List.mem_append_left _ (List.mem_append_left _ (List.mem_append_left _ (List.mem_append_left _ (List.mem_append_right _ (List.mem_append_right _ (List.mem_append_right _ (List.mem_append_right _ (List.mem_append_right _ (List.mem_append_right _ (List.mem_append_right _ (List.mem_append_right _ (List.mem_append_right _ (List.mem_append_right _ (List.mem_append_right _ (List.mem_append_right _ (List.mem_append_right _ (List.mem_append_right _ (List.mem_append_left _ h))))))))))))))))))))))))))
theorem wsL_c16 : ∀ w ∈ wsL_law_r16, w ∈ wsL_law := fun _ h => List.mem_append_left _ (List.mem_append_left _ (List.mem_append_left _ (List.mem_append_left _ (List.mem_append_left _ (List.mem_append_left _ (List.mem_append_left _ (List.mem_append_left _ (List.mem_append_left _ (List.mem_append_left _ (List.mem_append_left _ (List.mem_append_left _ (List.mem_append_right _ (List.mem_append_right _ (List.mem_append_right _ (List.mem_append_right _ (List.mem_append_right _ (List.mem_append_right _ (List.mem_append_right _ (List.mem_append_right _ (List.mem_append_right _ (List.mem_append_right _ (List.mem_append_right _ (List.mem_append_right _ (List.mem_append_right _ (List.mem_append_right _ (List.mem_append_right _ (List.mem_append_left _ h)))))))))))))))))))))))))))
theorem wsL_c17 : ∀ w ∈ wsL_law_r17, w ∈ wsL_law := fun _ h => List.mem_append_left _ (List.mem_append_left _ (List.mem_append_left _ (List.mem_append_left _ (List.mem_append_left _ (List.mem_append_left _ (List.mem_append_left _ (List.mem_append_left _ (List.mem_append_left _ (List.mem_append_left _ (List.mem_append_left _ (List.mem_append_left _ (List.mem_append_right _ (List.mem_append_right _ (List.mem_append_right _ (List.mem_append_right _ (List.mem_append_right _ (List.mem_append_right _ (List.mem_append_right _ (List.mem_append_right _ (List.mem_append_right _ (List.mem_append_right _ (List.mem_append_right _ (List.mem_append_right _ (List.mem_append_right _ (List.mem_append_right _ (List.mem_append_right _ (List.mem_append_right _ (List.mem_append_left _ h))))))))))))))))))))))))))))
theorem wsL_c18 : ∀ w ∈ wsL_law_r18, w ∈ wsL_law := fun _ h => List.mem_append_left _ (List.mem_append_left _ (List.mem_append_left _ (List.mem_append_left _ (List.mem_append_left _ (List.mem_append_left _ (List.mem_append_left _ (List.mem_append_left _ (List.mem_append_left _ (List.mem_append_left _ (List.mem_append_left _ (List.mem_append_left _ (List.mem_append_right _ (List.mem_append_right _ (List.mem_append_right _ (List.mem_append_right _ (List.mem_append_right _ (List.mem_append_right _ (List.mem_append_right _ (List.mem_append_right _ (List.mem_append_right _ (List.mem_append_right _ (List.mem_append_right _ (List.mem_append_right _ (List.mem_append_right _ (List.mem_append_right _ (List.mem_append_right _ (List.mem_append_right _ (List.mem_append_right _ (List.mem_append_left _ h)))))))))))))))))))))))))))))
theorem wsL_c19 : ∀ w ∈ wsL_law_r19, w ∈ wsL_law := fun _ h => List.mem_append_left _ (List.mem_append_left _ (List.mem_append_left _ (List.mem_append_left _ (List.mem_append_left _ (List.mem_append_left _ (List.mem_append_left _ (List.mem_append_left _ (List.mem_append_left _ (List.mem_append_left _ (List.mem_append_left _ (List.mem_append_left _ (List.mem_append_right _ (List.mem_append_right _ (List.mem_append_right _ (List.mem_append_right _ (List.mem_append_right _ (List.mem_append_right _ (List.mem_append_right _ (List.mem_append_right _ (List.mem_append_right _ (List.mem_append_right _ (List.mem_append_right _ (List.mem_append_right _ (List.mem_append_right _ (List.mem_append_right _ (List.mem_append_right _ (List.mem_append_right _ (List.mem_append_right _ (List.mem_append_right _ (List.mem_append_left _ h))))))))))))))))))))))))))))))
theorem wsL_c20 : ∀ w ∈ wsL_law_r20, w ∈ wsL_law := fun _ h => List.mem_append_left _ (List.mem_append_left _ (List.mem_append_left _ (List.mem_append_left _ (List.mem_append_left _ (List.mem_append_left _ (List.mem_append_left _ (List.mem_append_left _ (List.mem_append_left _ (List.mem_append_left _ (List.mem_append_left _ (List.mem_append_left _ (List.mem_append_right _ (List.mem_append_right _ (List.mem_append_right _ (List.mem_append_right _ (List.mem_append_right _ (List.mem_append_right _ (List.mem_append_right _ (List.mem_append_right _ (List.mem_append_right _ (List.mem_append_right _ (List.mem_append_right _ (List.mem_append_right _ (List.mem_append_right _ (List.mem_append_right _ (List.mem_append_right _ (List.mem_append_right _ (List.mem_append_right _ (List.mem_append_right _ (List.mem_append_right _ (List.mem_append_left _ h)))))))))))))))))))))))))))))))
theorem wsL_c21 : ∀ w ∈ wsL_law_r21, w ∈ wsL_law := fun _ h => List.mem_append_left _ (List.mem_append_left _ (List.mem_append_left _ (List.mem_append_left _ (List.mem_append_left _ (List.mem_append_left _ (List.mem_append_left _ (List.mem_append_left _ (List.mem_append_left _ (List.mem_append_left _ (List.mem_append_left _ (List.mem_append_left _ (List.mem_append_right _ (List.mem_append_right _ (List.mem_append_right _ (List.mem_append_right _ (List.mem_append_right _ (List.mem_append_right _ (List.mem_append_right _ (List.mem_append_right _ (List.mem_append_right _ (List.mem_append_right _ (List.mem_append_right _ (List.mem_append_right _ (List.mem_append_right _ (List.mem_append_right _ (List.mem_append_right _ (List.mem_append_right _ (List.mem_append_right _ (List.mem_append_right _ (List.mem_append_right _ (List.mem_append_right _ (List.mem_append_left _ h))))))))))))))))))))))))))))))))
theorem wsL_c22 : ∀ w ∈ wsL_law_r22, w ∈ wsL_law := fun _ h => List.mem_append_left _ (List.mem_append_left _ (List.mem_append_left _ (List.mem_append_left _ (List.mem_append_left _ (List.mem_append_left _ (List.mem_append_left _ (List.mem_append_left _ (List.mem_append_left _ (List.mem_append_left _ (List.mem_append_left _ (List.mem_append_left _ (List.mem_append_right _ (List.mem_append_right _ (List.mem_append_right _ (List.mem_append_right _ (List.mem_append_right _ (List.mem_append_right _ (List.mem_append_right _ (List.mem_append_right _ (List.mem_append_right _ (List.mem_append_right _ (List.mem_append_right _ (List.mem_append_right _ (List.mem_append_right _ (List.mem_append_right _ (List.mem_append_right _ (List.mem_append_right _ (List.mem_append_right _ (List.mem_append_right _ (List.mem_append_right _ (List.mem_append_right _ (List.mem_append_right _ (List.mem_append_left _ h)))))))))))))))))))))))))))))))))
theorem wsL_c23 : ∀ w ∈ wsL_law_r23, w ∈ wsL_law := fun _ h => List.mem_append_left _ (List.mem_append_left _ (List.mem_append_left _ (List.mem_append_left _ (List.mem_append_left _ (List.mem_append_left _ (List.mem_append_left _ (List.mem_append_left _ (List.mem_append_left _ (List.mem_append_left _ (List.mem_append_left _ (List.mem_append_left _ (List.mem_append_right _ (List.mem_append_right _ (List.mem_append_right _ (List.mem_append_right _ (List.mem_append_right _ (List.mem_append_right _ (List.mem_append_right _ (List.mem_append_right _ (List.mem_append_right _ (List.mem_append_right _ (List.mem_append_right _ (List.mem_append_right _ (List.mem_append_right _ (List.mem_append_right _ (List.mem_append_right _ (List.mem_append_right _ (List.mem_append_right _ (List.mem_append_right _ (List.mem_append_right _ (List.mem_append_right _ (List.mem_append_right _ (List.mem_append_right _ (List.mem_append_left _ h))))))))))))))))))))))))))))))))))
theorem wsL_c24 : ∀ w ∈ wsL_law_r24, w ∈ wsL_law := fun _ h => List.mem_append_left _ (List.mem_append_left _ (List.mem_append_left _ (List.mem_append_left _ (List.mem_append_left _ (List.mem_append_left _ (List.mem_append_left _ (List.mem_append_left _ (List.mem_append_left _ (List.mem_append_left _ (List.mem_append_left _ (List.mem_append_left _ (List.mem_append_right _ (List.mem_append_right _ (List.mem_append_right _ (List.mem_append_right _ (List.mem_append_right _ (List.mem_append_right _ (List.mem_append_right _ (List.mem_append_right _ (List.mem_append_right _ (List.mem_append_right _ (List.mem_append_right _ (List.mem_append_right _ (List.mem_append_right _ (List.mem_append_right _ (List.mem_append_right _ (List.mem_append_right _ (List.mem_append_right _ (List.mem_append_right _ (List.mem_append_right _ (List.mem_append_right _ (List.mem_append_right _ (List.mem_append_right _ (List.mem_append_right _ (List.mem_append_left _ h)))))))))))))))))))))))))))))))))))
theorem wsL_c25 : ∀ w ∈ wsL_law_r25, w ∈ wsL_law := fun _ h => List.mem_append_left _ (List.mem_append_left _ (List.mem_append_left _ (List.mem_append_left _ (List.mem_append_left _ (List.mem_append_left _ (List.mem_append_left _ (List.mem_append_left _ (List.mem_append_left _ (List.mem_append_left _ (List.mem_append_left _ (List.mem_append_left _ (List.mem_append_right _ (List.mem_append_right _ (List.mem_append_right _ (List.mem_append_right _ (List.mem_append_right _ (List.mem_append_right _ (List.mem_append_right _ (List.mem_append_right _ (List.mem_append_right _ (List.mem_append_right _ (List.mem_append_right _ (List.mem_append_right _ (List.mem_append_right _ (List.mem_append_right _ (List.mem_append_right _ (List.mem_append_right _ (List.mem_append_right _ (List.mem_append_right _ (List.mem_append_right _ (List.mem_append_right _ (List.mem_append_right _ (List.mem_append_right _ (List.mem_append_right _ (List.mem_append_right _ (List.mem_append_left _ h))))))))))))))))))))))))))))))))))))
theorem wsL_c26 : ∀ w ∈ wsL_law_r26, w ∈ wsL_law := fun _ h => List.mem_append_left _ (List.mem_append_left _ (List.mem_append_left _ (List.mem_append_left _ (List.mem_append_left _ (List.mem_append_left _ (List.mem_append_left _ (List.mem_append_left _ (List.mem_append_left _ (List.mem_append_left _ (List.mem_append_left _ (List.mem_append_left _ (List.mem_append_right _ (List.mem_append_right _ (List.mem_append_right _ (List.mem_append_right _ (List.mem_append_right _ (List.mem_append_right _ (List.mem_append_right _ (List.mem_append_right _ (List.mem_append_right _ (List.mem_append_right _ (List.mem_append_right _ (List.mem_append_right _ (List.mem_append_right _ (List.mem_append_right _ (List.mem_append_right _ (List.mem_append_right _ (List.mem_append_right _ (List.mem_append_right _ (List.mem_append_right _ (List.mem_append_right _ (List.mem_append_right _ (List.mem_append_right _ (List.mem_append_right _ (List.mem_append_right _ (List.mem_append_right _ (List.mem_append_left _ h)))))))))))))))))))))))))))))))))))))
theorem wsL_c27 : ∀ w ∈ wsL_law_r27, w ∈ wsL_law := fun _ h => List.mem_append_left _ (List.mem_append_left _ (List.mem_append_left _ (List.mem_append_left _ (List.mem_append_left _ (List.mem_append_left _ (List.mem_append_left _ (List.mem_append_left _ (List.mem_append_left _ (List.mem_append_left _ (List.mem_append_left _ (List.mem_append_left _ (List.mem_append_right _ (List.mem_append_right _ (List.mem_append_right _ (List.mem_append_right _ (List.mem_append_right _ (List.mem_append_right _ (List.mem_append_right _ (List.mem_append_right _ (List.mem_append_right _ (List.mem_append_right _ (List.mem_append_right _ (List.mem_append_right _ (List.mem_append_right _ (List.mem_append_right _ (List.mem_append_right _ (List.mem_append_right _ (List.mem_append_right _ (List.mem_append_right _ (List.mem_append_right _ (List.mem_append_right _ (List.mem_append_right _ (List.mem_append_right _ (List.mem_append_right _ (List.mem_append_right _ (List.mem_append_right _ (List.mem_append_right _ (List.mem_append_left _ h))))))))))))))))))))))))))))))))))))))
theorem wsL_c28 : ∀ w ∈ wsL_law_r28, w ∈ wsL_law := fun _ h => List.mem_append_left _ (List.mem_append_left _ (List.mem_append_left _ (List.mem_append_left _ (List.mem_append_left _ (List.mem_append_left _ (List.mem_append_left _ (List.mem_append_left _ (List.mem_append_left _ (List.mem_append_left _ (List.mem_append_left _ (List.mem_append_left _ (List.mem_append_right _ (List.mem_append_right _ (List.mem_append_right _ (List.mem_append_right _ (List.mem_append_right _ (List.mem_append_right _ (List.mem_append_right _ (List.mem_append_right _ (List.mem_append_right _ (List.mem_append_right _ (List.mem_append_right _ (List.mem_append_right _ (List.mem_append_right _ (List.mem_append_right _ (List.mem_append_right _ (List.mem_append_right _ (List.mem_append_right _ (List.mem_append_right _ (List.mem_append_right _ (List.mem_append_right _ (List.mem_append_right _ (List.mem_append_right _ (List.mem_append_right _ (List.mem_append_right _ (List.mem_append_right _ (List.mem_append_right _ (List.mem_append_right _ (List.mem_append_left _ h)))))))))))))))))))))))))))))))))))))))
theorem wsL_c29 : ∀ w ∈ wsL_law_r29, w ∈ wsL_law := fun _ h => List.mem_append_left _ (List.mem_append_left _ (List.mem_append_left _ (List.mem_append_left _ (List.mem_append_left _ (List.mem_append_left _ (List.mem_append_left _ (List.mem_append_left _ (List.mem_append_left _ (List.mem_append_left _ (List.mem_append_left _ (List.mem_append_left _ (List.mem_append_right _ (List.mem_append_right _ (List.mem_append_right _ (List.mem_append_right _ (List.mem_append_right _ (List.mem_append_right _ (List.mem_append_right _ (List.mem_append_right _ (List.mem_append_right _ (List.mem_append_right _ (List.mem_append_right _ (List.mem_append_right _ (List.mem_append_right _ (List.mem_append_right _ (List.mem_append_right _ (List.mem_append_right _ (List.mem_append_right _ (List.mem_append_right _ (List.mem_append_right _ (List.mem_append_right _ (List.mem_append_right _ (List.mem_append_right _ (List.mem_append_right _ (List.mem_append_right _ (List.mem_append_right _ (List.mem_append_right _ (List.mem_append_right _ (List.mem_append_right _ (List.mem_append_left _ h))))))))))))))))))))))))))))))))))))))))
theorem wsL_c30 : ∀ w ∈ wsL_law_r30, w ∈ wsL_law := fun _ h => List.mem_append_left _ (List.mem_append_left _ (List.mem_append_left _ (List.mem_append_left _ (List.mem_append_left _ (List.mem_append_left _ (List.mem_append_left _ (List.mem_append_left _ (List.mem_append_left _ (List.mem_append_left _ (List.mem_append_left _ (List.mem_append_left _ (List.mem_append_right _ (List.mem_append_right _ (List.mem_append_right _ (List.mem_append_right _ (List.mem_append_right _ (List.mem_append_right _ (List.mem_append_right _ (List.mem_append_right _ (List.mem_append_right _ (List.mem_append_right _ (List.mem_append_right _ (List.mem_append_right _ (List.mem_append_right _ (List.mem_append_right _ (List.mem_append_right _ (List.mem_append_right _ (List.mem_append_right _ (List.mem_append_right _ (List.mem_append_right _ (List.mem_append_right _ (List.mem_append_right _ (List.mem_append_right _ (List.mem_append_right _ (List.mem_append_right _ (List.mem_append_right _ (List.mem_append_right _ (List.mem_append_right _ (List.mem_append_right _ (List.mem_append_right _ (List.mem_append_left _ h)))))))))))))))))))))))))))))))))))))))))
theorem wsL_c31 : ∀ w ∈ wsL_law_r31, w ∈ wsL_law := fun _ h => List.mem_append_left _ (List.mem_append_left _ (List.mem_append_left _ (List.mem_append_left _ (List.mem_append_left _ (List.mem_append_left _ (List.mem_append_left _ (List.mem_append_left _ (List.mem_append_left _ (List.mem_append_left _ (List.mem_append_left _ (List.mem_append_left _ (List.mem_append_right _ (List.mem_append_right _ (List.mem_append_right _ (List.mem_append_right _ (List.mem_append_right _ (List.mem_append_right _ (List.mem_append_right _ (List.mem_append_right _ (List.mem_append_right _ (List.mem_append_right _ (List.mem_append_right _ (List.mem_append_right _ (List.mem_append_right _ (List.mem_append_right _ (List.mem_append_right _ (List.mem_append_right _ (List.mem_append_right _ (List.mem_append_right _ (List.mem_append_right _ (List.mem_append_right _ (List.mem_append_right _ (List.mem_append_right _ (List.mem_append_right _ (List.mem_append_right _ (List.mem_append_right _ (List.mem_append_right _ (List.mem_append_right _ (List.mem_append_right _ (List.mem_append_right _ (List.mem_append_right _ (List.mem_append_left _ h))))))))))))))))))))))))))))))))))))))))))
theorem wsL_c32 : ∀ w ∈ wsL_law_r32, w ∈ wsL_law := fun _ h => List.mem_append_left _ (List.mem_append_left _ (List.mem_append_left _ (List.mem_append_left _ (List.mem_append_left _ (List.mem_append_left _ (List.mem_append_left _ (List.mem_append_left _ (List.mem_append_left _ (List.mem_append_left _ (List.mem_append_left _ (List.mem_append_left _ (List.mem_append_right _ (List.mem_append_right _ (List.mem_append_right _ (List.mem_append_right _ (List.mem_append_right _ (List.mem_append_right _ (List.mem_append_right _ (List.mem_append_right _ (List.mem_append_right _ (List.mem_append_right _ (List.mem_append_right _ (List.mem_append_right _ (List.mem_append_right _ (List.mem_append_right _ (List.mem_append_right _ (List.mem_append_right _ (List.mem_append_right _ (List.mem_append_right _ (List.mem_append_right _ (List.mem_append_right _ (List.mem_append_right _ (List.mem_append_right _ (List.mem_append_right _ (List.mem_append_right _ (List.mem_append_right _ (List.mem_append_right _ (List.mem_append_right _ (List.mem_append_right _ (List.mem_append_right _ (List.mem_append_right _ (List.mem_append_right _ (List.mem_append_left _ h)))))))))))))))))))))))))))))))))))))))))))
theorem wsL_c33 : ∀ w ∈ wsL_law_r33, w ∈ wsL_law := fun _ h => List.mem_append_left _ (List.mem_append_left _ (List.mem_append_left _ (List.mem_append_left _ (List.mem_append_left _ (List.mem_append_left _ (List.mem_append_left _ (List.mem_append_left _ (List.mem_append_left _ (List.mem_append_left _ (List.mem_append_left _ (List.mem_append_left _ (List.mem_append_right _ (List.mem_append_right _ (List.mem_append_right _ (List.mem_append_right _ (List.mem_append_right _ (List.mem_append_right _ (List.mem_append_right _ (List.mem_append_right _ (List.mem_append_right _ (List.mem_append_right _ (List.mem_append_right _ (List.mem_append_right _ (List.mem_append_right _ (List.mem_append_right _ (List.mem_append_right _ (List.mem_append_right _ (List.mem_append_right _ (List.mem_append_right _ (List.mem_append_right _ (List.mem_append_right _ (List.mem_append_right _ (List.mem_append_right _ (List.mem_append_right _ (List.mem_append_right _ (List.mem_append_right _ (List.mem_append_right _ (List.mem_append_right _ (List.mem_append_right _ (List.mem_append_right _ (List.mem_append_right _ (List.mem_append_right _ (List.mem_append_right _ (List.mem_append_left _ h))))))))))))))))))))))))))))))))))))))))))))
theorem wsL_c34 : ∀ w ∈ wsL_law_r34, w ∈ wsL_law := fun _ h => List.mem_append_left _ (List.mem_append_left _ (List.mem_append_left _ (List.mem_append_left _ (List.mem_append_left _ (List.mem_append_left _ (List.mem_append_left _ (List.mem_append_left _ (List.mem_append_left _ (List.mem_append_left _ (List.mem_append_left _ (List.mem_append_left _ (List.mem_append_right _ (List.mem_append_right _ (List.mem_append_right _ (List.mem_append_right _ (List.mem_append_right _ (List.mem_append_right _ (List.mem_append_right _ (List.mem_append_right _ (List.mem_append_right _ (List.mem_append_right _ (List.mem_append_right _ (List.mem_append_right _ (List.mem_append_right _ (List.mem_append_right _ (List.mem_append_right _ (List.mem_append_right _ (List.mem_append_right _ (List.mem_append_right _ (List.mem_append_right _ (List.mem_append_right _ (List.mem_append_right _ (List.mem_append_right _ (List.mem_append_right _ (List.mem_append_right _ (List.mem_append_right _ (List.mem_append_right _ (List.mem_append_right _ (List.mem_append_right _ (List.mem_append_right _ (List.mem_append_right _ (List.mem_append_right _ (List.mem_append_right _ (List.mem_append_right _ (List.mem_append_left _ h)))))))))))))))))))))))))))))))))))))))))))))
theorem wsL_c35 : ∀ w ∈ wsL_law_r35, w ∈ wsL_law := fun _ h => List.mem_append_left _ (List.mem_append_left _ (List.mem_append_left _ (List.mem_append_left _ (List.mem_append_left _ (List.mem_append_left _ (List.mem_append_left _ (List.mem_append_left _ (List.mem_append_left _ (List.mem_append_left _ (List.mem_append_left _ (List.mem_append_left _ (List.mem_append_right _ (List.mem_append_right _ (List.mem_append_right _ (List.mem_append_right _ (List.mem_append_right _ (List.mem_append_right _ (List.mem_append_right _ (List.mem_append_right _ (List.mem_append_right _ (List.mem_append_right _ (List.mem_append_right _ (List.mem_append_right _ (List.mem_append_right _ (List.mem_append_right _ (List.mem_append_right _ (List.mem_append_right _ (List.mem_append_right _ (List.mem_append_right _ (List.mem_append_right _ (List.mem_append_right _ (List.mem_append_right _ (List.mem_append_right _ (List.mem_append_right _ (List.mem_append_right _ (List.mem_append_right _ (List.mem_append_right _ (List.mem_append_right _ (List.mem_append_right _ (List.mem_append_right _ (List.mem_append_right _ (List.mem_append_right _ (List.mem_append_right _ (List.mem_append_right _ (List.mem_append_right _ (List.mem_append_left _ h))))))))))))))))))))))))))))))))))))))))))))))
theorem wsL_c36 : ∀ w ∈ wsL_law_r36, w ∈ wsL_law := fun _ h => List.mem_append_left _ (List.mem_append_left _ (List.mem_append_left _ (List.mem_append_left _ (List.mem_append_left _ (List.mem_append_left _ (List.mem_append_left _ (List.mem_append_left _ (List.mem_append_left _ (List.mem_append_left _ (List.mem_append_left _ (List.mem_append_left _ (List.mem_append_right _ (List.mem_append_right _ (List.mem_append_right _ (List.mem_append_right _ (List.mem_append_right _ (List.mem_append_right _ (List.mem_append_right _ (List.mem_append_right _ (List.mem_append_right _ (List.mem_append_right _ (List.mem_append_right _ (List.mem_append_right _ (List.mem_append_right _ (List.mem_append_right _ (List.mem_append_right _ (List.mem_append_right _ (List.mem_append_right _ (List.mem_append_right _ (List.mem_append_right _ (List.mem_append_right _ (List.mem_append_right _ (List.mem_append_right _ (List.mem_append_right _ (List.mem_append_right _ (List.mem_append_right _ (List.mem_append_right _ (List.mem_append_right _ (List.mem_append_right _ (List.mem_append_right _ (List.mem_append_right _ (List.mem_append_right _ (List.mem_append_right _ (List.mem_append_right _ (List.mem_append_right _ (List.mem_append_right _ (List.mem_append_left _ h)))))))))))))))))))))))))))))))))))))))))))))))
theorem wsL_c37 : ∀ w ∈ wsL_law_r37, w ∈ wsL_law := fun _ h => List.mem_append_left _ (List.mem_append_left _ (List.mem_append_left _ (List.mem_append_left _ (List.mem_append_left _ (List.mem_append_left _ (List.mem_append_left _ (List.mem_append_left _ (List.mem_append_left _ (List.mem_append_left _ (List.mem_append_left _ (List.mem_append_left _ (List.mem_append_right _ (List.mem_append_right _ (List.mem_append_right _ (List.mem_append_right _ (List.mem_append_right _ (List.mem_append_right _ (List.mem_append_right _ (List.mem_append_right _ (List.mem_append_right _ (List.mem_append_right _ (List.mem_append_right _ (List.mem_append_right _ (List.mem_append_right _ (List.mem_append_right _ (List.mem_append_right _ (List.mem_append_right _ (List.mem_append_right _ (List.mem_append_right _ (List.mem_append_right _ (List.mem_append_right _ (List.mem_append_right _ (List.mem_append_right _ (List.mem_append_right _ (List.mem_append_right _ (List.mem_append_right _ (List.mem_append_right _ (List.mem_append_right _ (List.mem_append_right _ (List.mem_append_right _ (List.mem_append_right _ (List.mem_append_right _ (List.mem_append_right _ (List.mem_append_right _ (List.mem_append_right _ (List.mem_append_right _ (List.mem_append_right _ (List.mem_append_left _ h))))))))))))))))))))))))))))))))))))))))))))))))
theorem wsL_c38 : ∀ w ∈ wsL_law_r38, w ∈ wsL_law := fun _ h => List.mem_append_left _ (List.mem_append_left _ (List.mem_append_left _ (List.mem_append_left _ (List.mem_append_left _ (List.mem_append_left _ (List.mem_append_left _ (List.mem_append_left _ (List.mem_append_left _ (List.mem_append_left _ (List.mem_append_left _ (List.mem_append_left _ (List.mem_append_right _ (List.mem_append_right _ (List.mem_append_right _ (List.mem_append_right _ (List.mem_append_right _ (List.mem_append_right _ (List.mem_append_right _ (List.mem_append_right _ (List.mem_append_right _ (List.mem_append_right _ (List.mem_append_right _ (List.mem_append_right _ (List.mem_append_right _ (List.mem_append_right _ (List.mem_append_right _ (List.mem_append_right _ (List.mem_append_right _ (List.mem_append_right _ (List.mem_append_right _ (List.mem_append_right _ (List.mem_append_right _ (List.mem_append_right _ (List.mem_append_right _ (List.mem_append_right _ (List.mem_append_right _ (List.mem_append_right _ (List.mem_append_right _ (List.mem_append_right _ (List.mem_append_right _ (List.mem_append_right _ (List.mem_append_right _ (List.mem_append_right _ (List.mem_append_right _ (List.mem_append_right _ (List.mem_append_right _ (List.mem_append_right _ (List.mem_append_right _ (List.mem_append_left _ h)))))))))))))))))))))))))))))))))))))))))))))))))
theorem wsL_c39 : ∀ w ∈ wsL_law_r39, w ∈ wsL_law := fun _ h => List.mem_append_left _ (List.mem_append_left _ (List.mem_append_left _ (List.mem_append_left _ (List.mem_append_left _ (List.mem_append_left _ (List.mem_append_left _ (List.mem_append_left _ (List.mem_append_left _ (List.mem_append_left _ (List.mem_append_left _ (List.mem_append_left _ (List.mem_append_right _ (List.mem_append_right _ (List.mem_append_right _ (List.mem_append_right _ (List.mem_append_right _ (List.mem_append_right _ (List.mem_append_right _ (List.mem_append_right _ (List.mem_append_right _ (List.mem_append_right _ (List.mem_append_right _ (List.mem_append_right _ (List.mem_append_right _ (List.mem_append_right _ (List.mem_append_right _ (List.mem_append_right _ (List.mem_append_right _ (List.mem_append_right _ (List.mem_append_right _ (List.mem_append_right _ (List.mem_append_right _ (List.mem_append_right _ (List.mem_append_right _ (List.mem_append_right _ (List.mem_append_right _ (List.mem_append_right _ (List.mem_append_right _ (List.mem_append_right _ (List.mem_append_right _ (List.mem_append_right _ (List.mem_append_right _ (List.mem_append_right _ (List.mem_append_right _ (List.mem_append_right _ (List.mem_append_right _ (List.mem_append_right _ (List.mem_append_right _ (List.mem_append_right _ (List.mem_append_left _ h))))))))))))))))))))))))))))))))))))))))))))))))))
theorem wsL_c40 : ∀ w ∈ wsL_law_r40, w ∈ wsL_law := fun _ h => List.mem_append_left _ (List.mem_append_left _ (List.mem_append_left _ (List.mem_append_left _ (List.mem_append_left _ (List.mem_append_left _ (List.mem_append_left _ (List.mem_append_left _ (List.mem_append_left _ (List.mem_append_left _ (List.mem_append_left _ (List.mem_append_left _ (List.mem_append_right _ (List.mem_append_right _ (List.mem_append_right _ (List.mem_append_right _ (List.mem_append_right _ (List.mem_append_right _ (List.mem_append_right _ (List.mem_append_right _ (List.mem_append_right _ (List.mem_append_right _ (List.mem_append_right _ (List.mem_append_right _ (List.mem_append_right _ (List.mem_append_right _ (List.mem_append_right _ (List.mem_append_right _ (List.mem_append_right _ (List.mem_append_right _ (List.mem_append_right _ (List.mem_append_right _ (List.mem_append_right _ (List.mem_append_right _ (List.mem_append_right _ (List.mem_append_right _ (List.mem_append_right _ (List.mem_append_right _ (List.mem_append_right _ (List.mem_append_right _ (List.mem_append_right _ (List.mem_append_right _ (List.mem_append_right _ (List.mem_append_right _ (List.mem_append_right _ (List.mem_append_right _ (List.mem_append_right _ (List.mem_append_right _ (List.mem_append_right _ (List.mem_append_right _ (List.mem_append_right _ (h)))))))))))))))))))))))))))))))))))))))))))))))))))
set_option maxRecDepth 20000 in
theorem wsL_good : wsL_law.all goodWord = true := by decide +kernel
end
section
theorem dX0_init_0 : decode cX0_init 0 = .ok (.aload_n 0, 1) := by decide +kernel
theorem dX0_init_1 : decode cX0_init 1 = .ok (.invokespecial 3, 3) := by decide +kernel
theorem dX0_init_4 : decode cX0_init 4 = .ok (.aload_n 0, 1) := by decide +kernel
theorem dX0_init_5 : decode cX0_init 5 = .ok (.iconst 0, 1) := by decide +kernel
theorem dX0_init_6 : decode cX0_init 6 = .ok (.putfield 9, 3) := by decide +kernel
theorem dX0_init_9 : decode cX0_init 9 = .ok (.aload_n 0, 1) := by decide +kernel
theorem dX0_init_10 : decode cX0_init 10 = .ok (.iconst 3, 1) := by decide +kernel
theorem dX0_init_11 : decode cX0_init 11 = .ok (.newarray .int, 2) := by decide +kernel
theorem dX0_init_13 : decode cX0_init 13 = .ok (.putfield 15, 3) := by decide +kernel
theorem dX0_init_16 : decode cX0_init 16 = .ok (.aload_n 0, 1) := by decide +kernel
theorem dX0_init_17 : decode cX0_init 17 = .ok (.iconst 3, 1) := by decide +kernel
theorem dX0_init_18 : decode cX0_init 18 = .ok (.newarray .int, 2) := by decide +kernel
theorem dX0_init_20 : decode cX0_init 20 = .ok (.putfield 19, 3) := by decide +kernel
theorem dX0_init_23 : decode cX0_init 23 = .ok (.aload_n 0, 1) := by decide +kernel
theorem dX0_init_24 : decode cX0_init 24 = .ok (.iconst 3, 1) := by decide +kernel
theorem dX0_init_25 : decode cX0_init 25 = .ok (.newarray .int, 2) := by decide +kernel
theorem dX0_init_27 : decode cX0_init 27 = .ok (.putfield 22, 3) := by decide +kernel
theorem dX0_init_30 : decode cX0_init 30 = .ok (.aload_n 0, 1) := by decide +kernel
theorem dX0_init_31 : decode cX0_init 31 = .ok (.iconst 3, 1) := by decide +kernel
theorem dX0_init_32 : decode cX0_init 32 = .ok (.newarray .int, 2) := by decide +kernel
theorem dX0_init_34 : decode cX0_init 34 = .ok (.putfield 25, 3) := by decide +kernel
theorem dX0_init_37 : decode cX0_init 37 = .ok (.aload_n 0, 1) := by decide +kernel
theorem dX0_init_38 : decode cX0_init 38 = .ok (.iconst 3, 1) := by decide +kernel
theorem dX0_init_39 : decode cX0_init 39 = .ok (.newarray .int, 2) := by decide +kernel
theorem dX0_init_41 : decode cX0_init 41 = .ok (.putfield 28, 3) := by decide +kernel
theorem dX0_init_44 : decode cX0_init 44 = .ok (.aload_n 0, 1) := by decide +kernel
theorem dX0_init_45 : decode cX0_init 45 = .ok (.iconst 3, 1) := by decide +kernel
theorem dX0_init_46 : decode cX0_init 46 = .ok (.newarray .int, 2) := by decide +kernel
theorem dX0_init_48 : decode cX0_init 48 = .ok (.putfield 31, 3) := by decide +kernel
theorem dX0_init_51 : decode cX0_init 51 = .ok (.aload_n 0, 1) := by decide +kernel
theorem dX0_init_52 : decode cX0_init 52 = .ok (.iconst 3, 1) := by decide +kernel
theorem dX0_init_53 : decode cX0_init 53 = .ok (.newarray .int, 2) := by decide +kernel
theorem dX0_init_55 : decode cX0_init 55 = .ok (.putfield 34, 3) := by decide +kernel
theorem dX0_init_58 : decode cX0_init 58 = .ok (.return_, 1) := by decide +kernel
theorem dX0_copyFrom_0 : decode cX0_copyFrom 0 = .ok (.aload_n 0, 1) := by decide +kernel
theorem dX0_copyFrom_1 : decode cX0_copyFrom 1 = .ok (.aload_n 1, 1) := by decide +kernel
theorem dX0_copyFrom_2 : decode cX0_copyFrom 2 = .ok (.getfield 9, 3) := by decide +kernel
theorem dX0_copyFrom_5 : decode cX0_copyFrom 5 = .ok (.putfield 9, 3) := by decide +kernel
theorem dX0_copyFrom_8 : decode cX0_copyFrom 8 = .ok (.aload_n 1, 1) := by decide +kernel
theorem dX0_copyFrom_9 : decode cX0_copyFrom 9 = .ok (.getfield 15, 3) := by decide +kernel
theorem dX0_copyFrom_12 : decode cX0_copyFrom 12 = .ok (.aload_n 0, 1) := by decide +kernel
theorem dX0_copyFrom_13 : decode cX0_copyFrom 13 = .ok (.getfield 15, 3) := by decide +kernel
theorem dX0_copyFrom_16 : decode cX0_copyFrom 16 = .ok (.aload_n 0, 1) := by decide +kernel
theorem dX0_copyFrom_17 : decode cX0_copyFrom 17 = .ok (.getfield 9, 3) := by decide +kernel
theorem dX0_copyFrom_20 : decode cX0_copyFrom 20 = .ok (.invokestatic 37, 3) := by decide +kernel
theorem dX0_copyFrom_23 : decode cX0_copyFrom 23 = .ok (.aload_n 1, 1) := by decide +kernel
theorem dX0_copyFrom_24 : decode cX0_copyFrom 24 = .ok (.getfield 19, 3) := by decide +kernel
theorem dX0_copyFrom_27 : decode cX0_copyFrom 27 = .ok (.aload_n 0, 1) := by decide +kernel
theorem dX0_copyFrom_28 : decode cX0_copyFrom 28 = .ok (.getfield 19, 3) := by decide +kernel
theorem dX0_copyFrom_31 : decode cX0_copyFrom 31 = .ok (.aload_n 0, 1) := by decide +kernel
theorem dX0_copyFrom_32 : decode cX0_copyFrom 32 = .ok (.getfield 9, 3) := by decide +kernel
theorem dX0_copyFrom_35 : decode cX0_copyFrom 35 = .ok (.invokestatic 37, 3) := by decide +kernel
theorem dX0_copyFrom_38 : decode cX0_copyFrom 38 = .ok (.aload_n 1, 1) := by decide +kernel
theorem dX0_copyFrom_39 : decode cX0_copyFrom 39 = .ok (.getfield 22, 3) := by decide +kernel
theorem dX0_copyFrom_42 : decode cX0_copyFrom 42 = .ok (.aload_n 0, 1) := by decide +kernel
theorem dX0_copyFrom_43 : decode cX0_copyFrom 43 = .ok (.getfield 22, 3) := by decide +kernel
theorem dX0_copyFrom_46 : decode cX0_copyFrom 46 = .ok (.aload_n 0, 1) := by decide +kernel
theorem dX0_copyFrom_47 : decode cX0_copyFrom 47 = .ok (.getfield 9, 3) := by decide +kernel
theorem dX0_copyFrom_50 : decode cX0_copyFrom 50 = .ok (.invokestatic 37, 3) := by decide +kernel
theorem dX0_copyFrom_53 : decode cX0_copyFrom 53 = .ok (.aload_n 1, 1) := by decide +kernel
theorem dX0_copyFrom_54 : decode cX0_copyFrom 54 = .ok (.getfield 25, 3) := by decide +kernel
theorem dX0_copyFrom_57 : decode cX0_copyFrom 57 = .ok (.aload_n 0, 1) := by decide +kernel
theorem dX0_copyFrom_58 : decode cX0_copyFrom 58 = .ok (.getfield 25, 3) := by decide +kernel
theorem dX0_copyFrom_61 : decode cX0_copyFrom 61 = .ok (.aload_n 0, 1) := by decide +kernel
theorem dX0_copyFrom_62 : decode cX0_copyFrom 62 = .ok (.getfield 9, 3) := by decide +kernel
theorem dX0_copyFrom_65 : decode cX0_copyFrom 65 = .ok (.invokestatic 37, 3) := by decide +kernel
theorem dX0_copyFrom_68 : decode cX0_copyFrom 68 = .ok (.aload_n 1, 1) := by decide +kernel
theorem dX0_copyFrom_69 : decode cX0_copyFrom 69 = .ok (.getfield 28, 3) := by decide +kernel
theorem dX0_copyFrom_72 : decode cX0_copyFrom 72 = .ok (.aload_n 0, 1) := by decide +kernel
theorem dX0_copyFrom_73 : decode cX0_copyFrom 73 = .ok (.getfield 28, 3) := by decide +kernel
theorem dX0_copyFrom_76 : decode cX0_copyFrom 76 = .ok (.aload_n 0, 1) := by decide +kernel
theorem dX0_copyFrom_77 : decode cX0_copyFrom 77 = .ok (.getfield 9, 3) := by decide +kernel
theorem dX0_copyFrom_80 : decode cX0_copyFrom 80 = .ok (.invokestatic 37, 3) := by decide +kernel
theorem dX0_copyFrom_83 : decode cX0_copyFrom 83 = .ok (.aload_n 1, 1) := by decide +kernel
theorem dX0_copyFrom_84 : decode cX0_copyFrom 84 = .ok (.getfield 31, 3) := by decide +kernel
theorem dX0_copyFrom_87 : decode cX0_copyFrom 87 = .ok (.aload_n 0, 1) := by decide +kernel
theorem dX0_copyFrom_88 : decode cX0_copyFrom 88 = .ok (.getfield 31, 3) := by decide +kernel
theorem dX0_copyFrom_91 : decode cX0_copyFrom 91 = .ok (.aload_n 0, 1) := by decide +kernel
theorem dX0_copyFrom_92 : decode cX0_copyFrom 92 = .ok (.getfield 9, 3) := by decide +kernel
theorem dX0_copyFrom_95 : decode cX0_copyFrom 95 = .ok (.invokestatic 37, 3) := by decide +kernel
theorem dX0_copyFrom_98 : decode cX0_copyFrom 98 = .ok (.aload_n 1, 1) := by decide +kernel
theorem dX0_copyFrom_99 : decode cX0_copyFrom 99 = .ok (.getfield 34, 3) := by decide +kernel
theorem dX0_copyFrom_102 : decode cX0_copyFrom 102 = .ok (.aload_n 0, 1) := by decide +kernel
theorem dX0_copyFrom_103 : decode cX0_copyFrom 103 = .ok (.getfield 34, 3) := by decide +kernel
theorem dX0_copyFrom_106 : decode cX0_copyFrom 106 = .ok (.aload_n 0, 1) := by decide +kernel
theorem dX0_copyFrom_107 : decode cX0_copyFrom 107 = .ok (.getfield 9, 3) := by decide +kernel
theorem dX0_copyFrom_110 : decode cX0_copyFrom 110 = .ok (.invokestatic 37, 3) := by decide +kernel
theorem dX0_copyFrom_113 : decode cX0_copyFrom 113 = .ok (.return_, 1) := by decide +kernel
theorem dX0_has_0 : decode cX0_has 0 = .ok (.iload_n 1, 1) := by decide +kernel
theorem dX0_has_1 : decode cX0_has 1 = .ok (.iconst 0, 1) := by decide +kernel
theorem dX0_has_2 : decode cX0_has 2 = .ok (.aload_n 0, 1) := by decide +kernel
theorem dX0_has_3 : decode cX0_has 3 = .ok (.getfield 9, 3) := by decide +kernel
theorem dX0_has_6 : decode cX0_has 6 = .ok (.iconst 1, 1) := by decide +kernel
theorem dX0_has_7 : decode cX0_has 7 = .ok (.isub, 1) := by decide +kernel
theorem dX0_has_8 : decode cX0_has 8 = .ok (.invokestatic 41, 3) := by decide +kernel
theorem dX0_has_11 : decode cX0_has 11 = .ok (.ireturn, 1) := by decide +kernel
theorem dX0_add_0 : decode cX0_add 0 = .ok (.aload_n 0, 1) := by decide +kernel
theorem dX0_add_1 : decode cX0_add 1 = .ok (.getfield 9, 3) := by decide +kernel
theorem dX0_add_4 : decode cX0_add 4 = .ok (.istore_n 3, 1) := by decide +kernel
theorem dX0_add_5 : decode cX0_add 5 = .ok (.aload_n 0, 1) := by decide +kernel
theorem dX0_add_6 : decode cX0_add 6 = .ok (.getfield 15, 3) := by decide +kernel
theorem dX0_add_9 : decode cX0_add 9 = .ok (.iload_n 3, 1) := by decide +kernel
theorem dX0_add_10 : decode cX0_add 10 = .ok (.iload_n 1, 1) := by decide +kernel
theorem dX0_add_11 : decode cX0_add 11 = .ok (.iastore, 1) := by decide +kernel
theorem dX0_add_12 : decode cX0_add 12 = .ok (.aload_n 0, 1) := by decide +kernel
theorem dX0_add_13 : decode cX0_add 13 = .ok (.getfield 19, 3) := by decide +kernel
theorem dX0_add_16 : decode cX0_add 16 = .ok (.iload_n 3, 1) := by decide +kernel
theorem dX0_add_17 : decode cX0_add 17 = .ok (.iload_n 2, 1) := by decide +kernel
theorem dX0_add_18 : decode cX0_add 18 = .ok (.iastore, 1) := by decide +kernel
theorem dX0_add_19 : decode cX0_add 19 = .ok (.aload_n 0, 1) := by decide +kernel
theorem dX0_add_20 : decode cX0_add 20 = .ok (.getfield 22, 3) := by decide +kernel
theorem dX0_add_23 : decode cX0_add 23 = .ok (.iload_n 3, 1) := by decide +kernel
theorem dX0_add_24 : decode cX0_add 24 = .ok (.iconst 0, 1) := by decide +kernel
theorem dX0_add_25 : decode cX0_add 25 = .ok (.iastore, 1) := by decide +kernel
theorem dX0_add_26 : decode cX0_add 26 = .ok (.aload_n 0, 1) := by decide +kernel
theorem dX0_add_27 : decode cX0_add 27 = .ok (.getfield 25, 3) := by decide +kernel
theorem dX0_add_30 : decode cX0_add 30 = .ok (.iload_n 3, 1) := by decide +kernel
theorem dX0_add_31 : decode cX0_add 31 = .ok (.iconst 0, 1) := by decide +kernel
theorem dX0_add_32 : decode cX0_add 32 = .ok (.iastore, 1) := by decide +kernel
theorem dX0_add_33 : decode cX0_add 33 = .ok (.aload_n 0, 1) := by decide +kernel
theorem dX0_add_34 : decode cX0_add 34 = .ok (.getfield 28, 3) := by decide +kernel
theorem dX0_add_37 : decode cX0_add 37 = .ok (.iload_n 3, 1) := by decide +kernel
theorem dX0_add_38 : decode cX0_add 38 = .ok (.iconst 0, 1) := by decide +kernel
theorem dX0_add_39 : decode cX0_add 39 = .ok (.iastore, 1) := by decide +kernel
theorem dX0_add_40 : decode cX0_add 40 = .ok (.aload_n 0, 1) := by decide +kernel
theorem dX0_add_41 : decode cX0_add 41 = .ok (.getfield 31, 3) := by decide +kernel
theorem dX0_add_44 : decode cX0_add 44 = .ok (.iload_n 3, 1) := by decide +kernel
theorem dX0_add_45 : decode cX0_add 45 = .ok (.iconst 0, 1) := by decide +kernel
theorem dX0_add_46 : decode cX0_add 46 = .ok (.iastore, 1) := by decide +kernel
theorem dX0_add_47 : decode cX0_add 47 = .ok (.aload_n 0, 1) := by decide +kernel
theorem dX0_add_48 : decode cX0_add 48 = .ok (.getfield 34, 3) := by decide +kernel
theorem dX0_add_51 : decode cX0_add 51 = .ok (.iload_n 3, 1) := by decide +kernel
theorem dX0_add_52 : decode cX0_add 52 = .ok (.iconst 0, 1) := by decide +kernel
theorem dX0_add_53 : decode cX0_add 53 = .ok (.iastore, 1) := by decide +kernel
theorem dX0_add_54 : decode cX0_add 54 = .ok (.aload_n 0, 1) := by decide +kernel
theorem dX0_add_55 : decode cX0_add 55 = .ok (.dup, 1) := by decide +kernel
theorem dX0_add_56 : decode cX0_add 56 = .ok (.getfield 9, 3) := by decide +kernel
theorem dX0_add_59 : decode cX0_add 59 = .ok (.iconst 1, 1) := by decide +kernel
theorem dX0_add_60 : decode cX0_add 60 = .ok (.iadd, 1) := by decide +kernel
theorem dX0_add_61 : decode cX0_add 61 = .ok (.putfield 9, 3) := by decide +kernel
theorem dX0_add_64 : decode cX0_add 64 = .ok (.iload_n 3, 1) := by decide +kernel
theorem dX0_add_65 : decode cX0_add 65 = .ok (.ireturn, 1) := by decide +kernel
theorem dX0_allTips_0 : decode cX0_allTips 0 = .ok (.iconst 0, 1) := by decide +kernel
theorem dX0_allTips_1 : decode cX0_allTips 1 = .ok (.istore_n 1, 1) := by decide +kernel
theorem dX0_allTips_2 : decode cX0_allTips 2 = .ok (.iconst 0, 1) := by decide +kernel
theorem dX0_allTips_3 : decode cX0_allTips 3 = .ok (.istore_n 2, 1) := by decide +kernel
theorem dX0_allTips_4 : decode cX0_allTips 4 = .ok (.iload_n 2, 1) := by decide +kernel
theorem dX0_allTips_5 : decode cX0_allTips 5 = .ok (.aload_n 0, 1) := by decide +kernel
theorem dX0_allTips_6 : decode cX0_allTips 6 = .ok (.getfield 9, 3) := by decide +kernel
theorem dX0_allTips_9 : decode cX0_allTips 9 = .ok (.if_icmp .ge 18, 3) := by decide +kernel
theorem dX0_allTips_12 : decode cX0_allTips 12 = .ok (.iload_n 1, 1) := by decide +kernel
theorem dX0_allTips_13 : decode cX0_allTips 13 = .ok (.aload_n 0, 1) := by decide +kernel
theorem dX0_allTips_14 : decode cX0_allTips 14 = .ok (.getfield 31, 3) := by decide +kernel
theorem dX0_allTips_17 : decode cX0_allTips 17 = .ok (.iload_n 2, 1) := by decide +kernel
theorem dX0_allTips_18 : decode cX0_allTips 18 = .ok (.iaload, 1) := by decide +kernel
theorem dX0_allTips_19 : decode cX0_allTips 19 = .ok (.iadd, 1) := by decide +kernel
theorem dX0_allTips_20 : decode cX0_allTips 20 = .ok (.istore_n 1, 1) := by decide +kernel
theorem dX0_allTips_21 : decode cX0_allTips 21 = .ok (.iinc 2 1, 3) := by decide +kernel
theorem dX0_allTips_24 : decode cX0_allTips 24 = .ok (.goto (-20), 3) := by decide +kernel
theorem dX0_allTips_27 : decode cX0_allTips 27 = .ok (.iload_n 1, 1) := by decide +kernel
theorem dX0_allTips_28 : decode cX0_allTips 28 = .ok (.ireturn, 1) := by decide +kernel
theorem dX1_init_0 : decode cX1_init 0 = .ok (.aload_n 0, 1) := by decide +kernel
theorem dX1_init_1 : decode cX1_init 1 = .ok (.invokespecial 3, 3) := by decide +kernel
theorem dX1_init_4 : decode cX1_init 4 = .ok (.aload_n 0, 1) := by decide +kernel
theorem dX1_init_5 : decode cX1_init 5 = .ok (.iconst 0, 1) := by decide +kernel
theorem dX1_init_6 : decode cX1_init 6 = .ok (.putfield 9, 3) := by decide +kernel
theorem dX1_init_9 : decode cX1_init 9 = .ok (.aload_n 0, 1) := by decide +kernel
theorem dX1_init_10 : decode cX1_init 10 = .ok (.iconst 0, 1) := by decide +kernel
theorem dX1_init_11 : decode cX1_init 11 = .ok (.putfield 15, 3) := by decide +kernel
theorem dX1_init_14 : decode cX1_init 14 = .ok (.aload_n 0, 1) := by decide +kernel
theorem dX1_init_15 : decode cX1_init 15 = .ok (.iconst 5, 1) := by decide +kernel
theorem dX1_init_16 : decode cX1_init 16 = .ok (.anewarray 18, 3) := by decide +kernel
theorem dX1_init_19 : decode cX1_init 19 = .ok (.putfield 20, 3) := by decide +kernel
theorem dX1_init_22 : decode cX1_init 22 = .ok (.iconst 0, 1) := by decide +kernel
theorem dX1_init_23 : decode cX1_init 23 = .ok (.istore_n 1, 1) := by decide +kernel
theorem dX1_init_24 : decode cX1_init 24 = .ok (.iload_n 1, 1) := by decide +kernel
theorem dX1_init_25 : decode cX1_init 25 = .ok (.iconst 5, 1) := by decide +kernel
theorem dX1_init_26 : decode cX1_init 26 = .ok (.if_icmp .ge 22, 3) := by decide +kernel
theorem dX1_init_29 : decode cX1_init 29 = .ok (.aload_n 0, 1) := by decide +kernel
theorem dX1_init_30 : decode cX1_init 30 = .ok (.getfield 20, 3) := by decide +kernel
theorem dX1_init_33 : decode cX1_init 33 = .ok (.iload_n 1, 1) := by decide +kernel
theorem dX1_init_34 : decode cX1_init 34 = .ok (.new 18, 3) := by decide +kernel
theorem dX1_init_37 : decode cX1_init 37 = .ok (.dup, 1) := by decide +kernel
theorem dX1_init_38 : decode cX1_init 38 = .ok (.invokespecial 24, 3) := by decide +kernel
theorem dX1_init_41 : decode cX1_init 41 = .ok (.aastore, 1) := by decide +kernel
theorem dX1_init_42 : decode cX1_init 42 = .ok (.iinc 1 1, 3) := by decide +kernel
theorem dX1_init_45 : decode cX1_init 45 = .ok (.goto (-21), 3) := by decide +kernel
theorem dX1_init_48 : decode cX1_init 48 = .ok (.return_, 1) := by decide +kernel
theorem dX1_prepare_0 : decode cX1_prepare 0 = .ok (.aload_n 0, 1) := by decide +kernel
theorem dX1_prepare_1 : decode cX1_prepare 1 = .ok (.getfield 20, 3) := by decide +kernel
theorem dX1_prepare_4 : decode cX1_prepare 4 = .ok (.aload_n 0, 1) := by decide +kernel
theorem dX1_prepare_5 : decode cX1_prepare 5 = .ok (.getfield 15, 3) := by decide +kernel
theorem dX1_prepare_8 : decode cX1_prepare 8 = .ok (.aload_n 0, 1) := by decide +kernel
theorem dX1_prepare_9 : decode cX1_prepare 9 = .ok (.getfield 9, 3) := by decide +kernel
theorem dX1_prepare_12 : decode cX1_prepare 12 = .ok (.iadd, 1) := by decide +kernel
theorem dX1_prepare_13 : decode cX1_prepare 13 = .ok (.iconst 5, 1) := by decide +kernel
theorem dX1_prepare_14 : decode cX1_prepare 14 = .ok (.irem, 1) := by decide +kernel
theorem dX1_prepare_15 : decode cX1_prepare 15 = .ok (.aaload, 1) := by decide +kernel
theorem dX1_prepare_16 : decode cX1_prepare 16 = .ok (.aload_n 1, 1) := by decide +kernel
theorem dX1_prepare_17 : decode cX1_prepare 17 = .ok (.invokevirtual 25, 3) := by decide +kernel
theorem dX1_prepare_20 : decode cX1_prepare 20 = .ok (.return_, 1) := by decide +kernel
theorem dX1_keepPrepared_0 : decode cX1_keepPrepared 0 = .ok (.aload_n 0, 1) := by decide +kernel
theorem dX1_keepPrepared_1 : decode cX1_keepPrepared 1 = .ok (.getfield 9, 3) := by decide +kernel
theorem dX1_keepPrepared_4 : decode cX1_keepPrepared 4 = .ok (.iconst 4, 1) := by decide +kernel
theorem dX1_keepPrepared_5 : decode cX1_keepPrepared 5 = .ok (.if_icmp .ge 16, 3) := by decide +kernel
theorem dX1_keepPrepared_8 : decode cX1_keepPrepared 8 = .ok (.aload_n 0, 1) := by decide +kernel
theorem dX1_keepPrepared_9 : decode cX1_keepPrepared 9 = .ok (.dup, 1) := by decide +kernel
theorem dX1_keepPrepared_10 : decode cX1_keepPrepared 10 = .ok (.getfield 9, 3) := by decide +kernel
theorem dX1_keepPrepared_13 : decode cX1_keepPrepared 13 = .ok (.iconst 1, 1) := by decide +kernel
theorem dX1_keepPrepared_14 : decode cX1_keepPrepared 14 = .ok (.iadd, 1) := by decide +kernel
theorem dX1_keepPrepared_15 : decode cX1_keepPrepared 15 = .ok (.putfield 9, 3) := by decide +kernel
theorem dX1_keepPrepared_18 : decode cX1_keepPrepared 18 = .ok (.goto 15, 3) := by decide +kernel
theorem dX1_keepPrepared_21 : decode cX1_keepPrepared 21 = .ok (.aload_n 0, 1) := by decide +kernel
theorem dX1_keepPrepared_22 : decode cX1_keepPrepared 22 = .ok (.aload_n 0, 1) := by decide +kernel
theorem dX1_keepPrepared_23 : decode cX1_keepPrepared 23 = .ok (.getfield 15, 3) := by decide +kernel
theorem dX1_keepPrepared_26 : decode cX1_keepPrepared 26 = .ok (.iconst 1, 1) := by decide +kernel
theorem dX1_keepPrepared_27 : decode cX1_keepPrepared 27 = .ok (.iadd, 1) := by decide +kernel
theorem dX1_keepPrepared_28 : decode cX1_keepPrepared 28 = .ok (.iconst 5, 1) := by decide +kernel
theorem dX1_keepPrepared_29 : decode cX1_keepPrepared 29 = .ok (.irem, 1) := by decide +kernel
theorem dX1_keepPrepared_30 : decode cX1_keepPrepared 30 = .ok (.putfield 15, 3) := by decide +kernel
theorem dX1_keepPrepared_33 : decode cX1_keepPrepared 33 = .ok (.return_, 1) := by decide +kernel
theorem dX1_restoreInto_0 : decode cX1_restoreInto 0 = .ok (.aload_n 0, 1) := by decide +kernel
theorem dX1_restoreInto_1 : decode cX1_restoreInto 1 = .ok (.getfield 9, 3) := by decide +kernel
theorem dX1_restoreInto_4 : decode cX1_restoreInto 4 = .ok (.ifCond .le 33, 3) := by decide +kernel
theorem dX1_restoreInto_7 : decode cX1_restoreInto 7 = .ok (.aload_n 0, 1) := by decide +kernel
theorem dX1_restoreInto_8 : decode cX1_restoreInto 8 = .ok (.dup, 1) := by decide +kernel
theorem dX1_restoreInto_9 : decode cX1_restoreInto 9 = .ok (.getfield 9, 3) := by decide +kernel
theorem dX1_restoreInto_12 : decode cX1_restoreInto 12 = .ok (.iconst 1, 1) := by decide +kernel
theorem dX1_restoreInto_13 : decode cX1_restoreInto 13 = .ok (.isub, 1) := by decide +kernel
theorem dX1_restoreInto_14 : decode cX1_restoreInto 14 = .ok (.putfield 9, 3) := by decide +kernel
theorem dX1_restoreInto_17 : decode cX1_restoreInto 17 = .ok (.aload_n 1, 1) := by decide +kernel
theorem dX1_restoreInto_18 : decode cX1_restoreInto 18 = .ok (.aload_n 0, 1) := by decide +kernel
theorem dX1_restoreInto_19 : decode cX1_restoreInto 19 = .ok (.getfield 20, 3) := by decide +kernel
theorem dX1_restoreInto_22 : decode cX1_restoreInto 22 = .ok (.aload_n 0, 1) := by decide +kernel
theorem dX1_restoreInto_23 : decode cX1_restoreInto 23 = .ok (.getfield 15, 3) := by decide +kernel
theorem dX1_restoreInto_26 : decode cX1_restoreInto 26 = .ok (.aload_n 0, 1) := by decide +kernel
theorem dX1_restoreInto_27 : decode cX1_restoreInto 27 = .ok (.getfield 9, 3) := by decide +kernel
theorem dX1_restoreInto_30 : decode cX1_restoreInto 30 = .ok (.iadd, 1) := by decide +kernel
theorem dX1_restoreInto_31 : decode cX1_restoreInto 31 = .ok (.iconst 5, 1) := by decide +kernel
theorem dX1_restoreInto_32 : decode cX1_restoreInto 32 = .ok (.irem, 1) := by decide +kernel
theorem dX1_restoreInto_33 : decode cX1_restoreInto 33 = .ok (.aaload, 1) := by decide +kernel
theorem dX1_restoreInto_34 : decode cX1_restoreInto 34 = .ok (.invokevirtual 25, 3) := by decide +kernel
theorem dX1_restoreInto_37 : decode cX1_restoreInto 37 = .ok (.return_, 1) := by decide +kernel
theorem dX2_init_0 : decode cX2_init 0 = .ok (.aload_n 0, 1) := by decide +kernel
theorem dX2_init_1 : decode cX2_init 1 = .ok (.invokespecial 3, 3) := by decide +kernel
theorem dX2_init_4 : decode cX2_init 4 = .ok (.aload_n 0, 1) := by decide +kernel
theorem dX2_init_5 : decode cX2_init 5 = .ok (.iconst 0, 1) := by decide +kernel
theorem dX2_init_6 : decode cX2_init 6 = .ok (.putfield 9, 3) := by decide +kernel
theorem dX2_init_9 : decode cX2_init 9 = .ok (.aload_n 0, 1) := by decide +kernel
theorem dX2_init_10 : decode cX2_init 10 = .ok (.bipush 24, 2) := by decide +kernel
theorem dX2_init_12 : decode cX2_init 12 = .ok (.newarray .int, 2) := by decide +kernel
theorem dX2_init_14 : decode cX2_init 14 = .ok (.putfield 15, 3) := by decide +kernel
theorem dX2_init_17 : decode cX2_init 17 = .ok (.aload_n 0, 1) := by decide +kernel
theorem dX2_init_18 : decode cX2_init 18 = .ok (.bipush 24, 2) := by decide +kernel
theorem dX2_init_20 : decode cX2_init 20 = .ok (.newarray .int, 2) := by decide +kernel
theorem dX2_init_22 : decode cX2_init 22 = .ok (.putfield 19, 3) := by decide +kernel
theorem dX2_init_25 : decode cX2_init 25 = .ok (.aload_n 0, 1) := by decide +kernel
theorem dX2_init_26 : decode cX2_init 26 = .ok (.bipush 24, 2) := by decide +kernel
theorem dX2_init_28 : decode cX2_init 28 = .ok (.newarray .int, 2) := by decide +kernel
theorem dX2_init_30 : decode cX2_init 30 = .ok (.putfield 22, 3) := by decide +kernel
theorem dX2_init_33 : decode cX2_init 33 = .ok (.aload_n 0, 1) := by decide +kernel
theorem dX2_init_34 : decode cX2_init 34 = .ok (.bipush 24, 2) := by decide +kernel
theorem dX2_init_36 : decode cX2_init 36 = .ok (.newarray .int, 2) := by decide +kernel
theorem dX2_init_38 : decode cX2_init 38 = .ok (.putfield 25, 3) := by decide +kernel
theorem dX2_init_41 : decode cX2_init 41 = .ok (.aload_n 0, 1) := by decide +kernel
theorem dX2_init_42 : decode cX2_init 42 = .ok (.bipush 24, 2) := by decide +kernel
theorem dX2_init_44 : decode cX2_init 44 = .ok (.newarray .int, 2) := by decide +kernel
theorem dX2_init_46 : decode cX2_init 46 = .ok (.putfield 28, 3) := by decide +kernel
theorem dX2_init_49 : decode cX2_init 49 = .ok (.aload_n 0, 1) := by decide +kernel
theorem dX2_init_50 : decode cX2_init 50 = .ok (.bipush 24, 2) := by decide +kernel
theorem dX2_init_52 : decode cX2_init 52 = .ok (.newarray .int, 2) := by decide +kernel
theorem dX2_init_54 : decode cX2_init 54 = .ok (.putfield 31, 3) := by decide +kernel
theorem dX2_init_57 : decode cX2_init 57 = .ok (.aload_n 0, 1) := by decide +kernel
theorem dX2_init_58 : decode cX2_init 58 = .ok (.bipush 24, 2) := by decide +kernel
theorem dX2_init_60 : decode cX2_init 60 = .ok (.newarray .int, 2) := by decide +kernel
theorem dX2_init_62 : decode cX2_init 62 = .ok (.putfield 34, 3) := by decide +kernel
theorem dX2_init_65 : decode cX2_init 65 = .ok (.aload_n 0, 1) := by decide +kernel
theorem dX2_init_66 : decode cX2_init 66 = .ok (.bipush 24, 2) := by decide +kernel
theorem dX2_init_68 : decode cX2_init 68 = .ok (.newarray .int, 2) := by decide +kernel
theorem dX2_init_70 : decode cX2_init 70 = .ok (.putfield 37, 3) := by decide +kernel
theorem dX2_init_73 : decode cX2_init 73 = .ok (.aload_n 0, 1) := by decide +kernel
theorem dX2_init_74 : decode cX2_init 74 = .ok (.bipush 24, 2) := by decide +kernel
theorem dX2_init_76 : decode cX2_init 76 = .ok (.newarray .int, 2) := by decide +kernel
theorem dX2_init_78 : decode cX2_init 78 = .ok (.putfield 40, 3) := by decide +kernel
theorem dX2_init_81 : decode cX2_init 81 = .ok (.aload_n 0, 1) := by decide +kernel
theorem dX2_init_82 : decode cX2_init 82 = .ok (.bipush 24, 2) := by decide +kernel
theorem dX2_init_84 : decode cX2_init 84 = .ok (.newarray .int, 2) := by decide +kernel
theorem dX2_init_86 : decode cX2_init 86 = .ok (.putfield 43, 3) := by decide +kernel
theorem dX2_init_89 : decode cX2_init 89 = .ok (.aload_n 0, 1) := by decide +kernel
theorem dX2_init_90 : decode cX2_init 90 = .ok (.bipush 24, 2) := by decide +kernel
theorem dX2_init_92 : decode cX2_init 92 = .ok (.newarray .int, 2) := by decide +kernel
theorem dX2_init_94 : decode cX2_init 94 = .ok (.putfield 46, 3) := by decide +kernel
theorem dX2_init_97 : decode cX2_init 97 = .ok (.aload_n 0, 1) := by decide +kernel
theorem dX2_init_98 : decode cX2_init 98 = .ok (.bipush 24, 2) := by decide +kernel
theorem dX2_init_100 : decode cX2_init 100 = .ok (.newarray .int, 2) := by decide +kernel
theorem dX2_init_102 : decode cX2_init 102 = .ok (.putfield 49, 3) := by decide +kernel
theorem dX2_init_105 : decode cX2_init 105 = .ok (.aload_n 0, 1) := by decide +kernel
theorem dX2_init_106 : decode cX2_init 106 = .ok (.bipush 24, 2) := by decide +kernel
theorem dX2_init_108 : decode cX2_init 108 = .ok (.newarray .int, 2) := by decide +kernel
theorem dX2_init_110 : decode cX2_init 110 = .ok (.putfield 52, 3) := by decide +kernel
theorem dX2_init_113 : decode cX2_init 113 = .ok (.aload_n 0, 1) := by decide +kernel
theorem dX2_init_114 : decode cX2_init 114 = .ok (.bipush 24, 2) := by decide +kernel
theorem dX2_init_116 : decode cX2_init 116 = .ok (.newarray .int, 2) := by decide +kernel
theorem dX2_init_118 : decode cX2_init 118 = .ok (.putfield 55, 3) := by decide +kernel
theorem dX2_init_121 : decode cX2_init 121 = .ok (.return_, 1) := by decide +kernel
theorem dX2_copyFrom_0 : decode cX2_copyFrom 0 = .ok (.aload_n 0, 1) := by decide +kernel
theorem dX2_copyFrom_1 : decode cX2_copyFrom 1 = .ok (.aload_n 1, 1) := by decide +kernel
theorem dX2_copyFrom_2 : decode cX2_copyFrom 2 = .ok (.getfield 9, 3) := by decide +kernel
theorem dX2_copyFrom_5 : decode cX2_copyFrom 5 = .ok (.putfield 9, 3) := by decide +kernel
theorem dX2_copyFrom_8 : decode cX2_copyFrom 8 = .ok (.aload_n 1, 1) := by decide +kernel
theorem dX2_copyFrom_9 : decode cX2_copyFrom 9 = .ok (.getfield 15, 3) := by decide +kernel
theorem dX2_copyFrom_12 : decode cX2_copyFrom 12 = .ok (.aload_n 0, 1) := by decide +kernel
theorem dX2_copyFrom_13 : decode cX2_copyFrom 13 = .ok (.getfield 15, 3) := by decide +kernel
theorem dX2_copyFrom_16 : decode cX2_copyFrom 16 = .ok (.aload_n 0, 1) := by decide +kernel
theorem dX2_copyFrom_17 : decode cX2_copyFrom 17 = .ok (.getfield 9, 3) := by decide +kernel
theorem dX2_copyFrom_20 : decode cX2_copyFrom 20 = .ok (.invokestatic 58, 3) := by decide +kernel
theorem dX2_copyFrom_23 : decode cX2_copyFrom 23 = .ok (.aload_n 1, 1) := by decide +kernel
theorem dX2_copyFrom_24 : decode cX2_copyFrom 24 = .ok (.getfield 19, 3) := by decide +kernel
theorem dX2_copyFrom_27 : decode cX2_copyFrom 27 = .ok (.aload_n 0, 1) := by decide +kernel
theorem dX2_copyFrom_28 : decode cX2_copyFrom 28 = .ok (.getfield 19, 3) := by decide +kernel
theorem dX2_copyFrom_31 : decode cX2_copyFrom 31 = .ok (.aload_n 0, 1) := by decide +kernel
theorem dX2_copyFrom_32 : decode cX2_copyFrom 32 = .ok (.getfield 9, 3) := by decide +kernel
theorem dX2_copyFrom_35 : decode cX2_copyFrom 35 = .ok (.invokestatic 58, 3) := by decide +kernel
theorem dX2_copyFrom_38 : decode cX2_copyFrom 38 = .ok (.aload_n 1, 1) := by decide +kernel
theorem dX2_copyFrom_39 : decode cX2_copyFrom 39 = .ok (.getfield 22, 3) := by decide +kernel
theorem dX2_copyFrom_42 : decode cX2_copyFrom 42 = .ok (.aload_n 0, 1) := by decide +kernel
theorem dX2_copyFrom_43 : decode cX2_copyFrom 43 = .ok (.getfield 22, 3) := by decide +kernel
theorem dX2_copyFrom_46 : decode cX2_copyFrom 46 = .ok (.aload_n 0, 1) := by decide +kernel
theorem dX2_copyFrom_47 : decode cX2_copyFrom 47 = .ok (.getfield 9, 3) := by decide +kernel
theorem dX2_copyFrom_50 : decode cX2_copyFrom 50 = .ok (.invokestatic 58, 3) := by decide +kernel
theorem dX2_copyFrom_53 : decode cX2_copyFrom 53 = .ok (.aload_n 1, 1) := by decide +kernel
theorem dX2_copyFrom_54 : decode cX2_copyFrom 54 = .ok (.getfield 25, 3) := by decide +kernel
theorem dX2_copyFrom_57 : decode cX2_copyFrom 57 = .ok (.aload_n 0, 1) := by decide +kernel
theorem dX2_copyFrom_58 : decode cX2_copyFrom 58 = .ok (.getfield 25, 3) := by decide +kernel
theorem dX2_copyFrom_61 : decode cX2_copyFrom 61 = .ok (.aload_n 0, 1) := by decide +kernel
theorem dX2_copyFrom_62 : decode cX2_copyFrom 62 = .ok (.getfield 9, 3) := by decide +kernel
theorem dX2_copyFrom_65 : decode cX2_copyFrom 65 = .ok (.invokestatic 58, 3) := by decide +kernel
theorem dX2_copyFrom_68 : decode cX2_copyFrom 68 = .ok (.aload_n 1, 1) := by decide +kernel
theorem dX2_copyFrom_69 : decode cX2_copyFrom 69 = .ok (.getfield 28, 3) := by decide +kernel
theorem dX2_copyFrom_72 : decode cX2_copyFrom 72 = .ok (.aload_n 0, 1) := by decide +kernel
theorem dX2_copyFrom_73 : decode cX2_copyFrom 73 = .ok (.getfield 28, 3) := by decide +kernel
theorem dX2_copyFrom_76 : decode cX2_copyFrom 76 = .ok (.aload_n 0, 1) := by decide +kernel
theorem dX2_copyFrom_77 : decode cX2_copyFrom 77 = .ok (.getfield 9, 3) := by decide +kernel
theorem dX2_copyFrom_80 : decode cX2_copyFrom 80 = .ok (.invokestatic 58, 3) := by decide +kernel
theorem dX2_copyFrom_83 : decode cX2_copyFrom 83 = .ok (.aload_n 1, 1) := by decide +kernel
theorem dX2_copyFrom_84 : decode cX2_copyFrom 84 = .ok (.getfield 31, 3) := by decide +kernel
theorem dX2_copyFrom_87 : decode cX2_copyFrom 87 = .ok (.aload_n 0, 1) := by decide +kernel
theorem dX2_copyFrom_88 : decode cX2_copyFrom 88 = .ok (.getfield 31, 3) := by decide +kernel
theorem dX2_copyFrom_91 : decode cX2_copyFrom 91 = .ok (.aload_n 0, 1) := by decide +kernel
theorem dX2_copyFrom_92 : decode cX2_copyFrom 92 = .ok (.getfield 9, 3) := by decide +kernel
theorem dX2_copyFrom_95 : decode cX2_copyFrom 95 = .ok (.invokestatic 58, 3) := by decide +kernel
theorem dX2_copyFrom_98 : decode cX2_copyFrom 98 = .ok (.aload_n 1, 1) := by decide +kernel
theorem dX2_copyFrom_99 : decode cX2_copyFrom 99 = .ok (.getfield 34, 3) := by decide +kernel
theorem dX2_copyFrom_102 : decode cX2_copyFrom 102 = .ok (.aload_n 0, 1) := by decide +kernel
theorem dX2_copyFrom_103 : decode cX2_copyFrom 103 = .ok (.getfield 34, 3) := by decide +kernel
theorem dX2_copyFrom_106 : decode cX2_copyFrom 106 = .ok (.aload_n 0, 1) := by decide +kernel
theorem dX2_copyFrom_107 : decode cX2_copyFrom 107 = .ok (.getfield 9, 3) := by decide +kernel
theorem dX2_copyFrom_110 : decode cX2_copyFrom 110 = .ok (.invokestatic 58, 3) := by decide +kernel
theorem dX2_copyFrom_113 : decode cX2_copyFrom 113 = .ok (.aload_n 1, 1) := by decide +kernel
theorem dX2_copyFrom_114 : decode cX2_copyFrom 114 = .ok (.getfield 37, 3) := by decide +kernel
theorem dX2_copyFrom_117 : decode cX2_copyFrom 117 = .ok (.aload_n 0, 1) := by decide +kernel
theorem dX2_copyFrom_118 : decode cX2_copyFrom 118 = .ok (.getfield 37, 3) := by decide +kernel
theorem dX2_copyFrom_121 : decode cX2_copyFrom 121 = .ok (.aload_n 0, 1) := by decide +kernel
theorem dX2_copyFrom_122 : decode cX2_copyFrom 122 = .ok (.getfield 9, 3) := by decide +kernel
theorem dX2_copyFrom_125 : decode cX2_copyFrom 125 = .ok (.invokestatic 58, 3) := by decide +kernel
theorem dX2_copyFrom_128 : decode cX2_copyFrom 128 = .ok (.aload_n 1, 1) := by decide +kernel
theorem dX2_copyFrom_129 : decode cX2_copyFrom 129 = .ok (.getfield 40, 3) := by decide +kernel
theorem dX2_copyFrom_132 : decode cX2_copyFrom 132 = .ok (.aload_n 0, 1) := by decide +kernel
theorem dX2_copyFrom_133 : decode cX2_copyFrom 133 = .ok (.getfield 40, 3) := by decide +kernel
theorem dX2_copyFrom_136 : decode cX2_copyFrom 136 = .ok (.aload_n 0, 1) := by decide +kernel
theorem dX2_copyFrom_137 : decode cX2_copyFrom 137 = .ok (.getfield 9, 3) := by decide +kernel
theorem dX2_copyFrom_140 : decode cX2_copyFrom 140 = .ok (.invokestatic 58, 3) := by decide +kernel
theorem dX2_copyFrom_143 : decode cX2_copyFrom 143 = .ok (.aload_n 1, 1) := by decide +kernel
theorem dX2_copyFrom_144 : decode cX2_copyFrom 144 = .ok (.getfield 43, 3) := by decide +kernel
theorem dX2_copyFrom_147 : decode cX2_copyFrom 147 = .ok (.aload_n 0, 1) := by decide +kernel
theorem dX2_copyFrom_148 : decode cX2_copyFrom 148 = .ok (.getfield 43, 3) := by decide +kernel
theorem dX2_copyFrom_151 : decode cX2_copyFrom 151 = .ok (.aload_n 0, 1) := by decide +kernel
theorem dX2_copyFrom_152 : decode cX2_copyFrom 152 = .ok (.getfield 9, 3) := by decide +kernel
theorem dX2_copyFrom_155 : decode cX2_copyFrom 155 = .ok (.invokestatic 58, 3) := by decide +kernel
theorem dX2_copyFrom_158 : decode cX2_copyFrom 158 = .ok (.aload_n 1, 1) := by decide +kernel
theorem dX2_copyFrom_159 : decode cX2_copyFrom 159 = .ok (.getfield 46, 3) := by decide +kernel
theorem dX2_copyFrom_162 : decode cX2_copyFrom 162 = .ok (.aload_n 0, 1) := by decide +kernel
theorem dX2_copyFrom_163 : decode cX2_copyFrom 163 = .ok (.getfield 46, 3) := by decide +kernel
theorem dX2_copyFrom_166 : decode cX2_copyFrom 166 = .ok (.aload_n 0, 1) := by decide +kernel
theorem dX2_copyFrom_167 : decode cX2_copyFrom 167 = .ok (.getfield 9, 3) := by decide +kernel
theorem dX2_copyFrom_170 : decode cX2_copyFrom 170 = .ok (.invokestatic 58, 3) := by decide +kernel
theorem dX2_copyFrom_173 : decode cX2_copyFrom 173 = .ok (.aload_n 1, 1) := by decide +kernel
theorem dX2_copyFrom_174 : decode cX2_copyFrom 174 = .ok (.getfield 49, 3) := by decide +kernel
theorem dX2_copyFrom_177 : decode cX2_copyFrom 177 = .ok (.aload_n 0, 1) := by decide +kernel
theorem dX2_copyFrom_178 : decode cX2_copyFrom 178 = .ok (.getfield 49, 3) := by decide +kernel
theorem dX2_copyFrom_181 : decode cX2_copyFrom 181 = .ok (.aload_n 0, 1) := by decide +kernel
theorem dX2_copyFrom_182 : decode cX2_copyFrom 182 = .ok (.getfield 9, 3) := by decide +kernel
theorem dX2_copyFrom_185 : decode cX2_copyFrom 185 = .ok (.invokestatic 58, 3) := by decide +kernel
theorem dX2_copyFrom_188 : decode cX2_copyFrom 188 = .ok (.aload_n 1, 1) := by decide +kernel
theorem dX2_copyFrom_189 : decode cX2_copyFrom 189 = .ok (.getfield 52, 3) := by decide +kernel
theorem dX2_copyFrom_192 : decode cX2_copyFrom 192 = .ok (.aload_n 0, 1) := by decide +kernel
theorem dX2_copyFrom_193 : decode cX2_copyFrom 193 = .ok (.getfield 52, 3) := by decide +kernel
theorem dX2_copyFrom_196 : decode cX2_copyFrom 196 = .ok (.aload_n 0, 1) := by decide +kernel
theorem dX2_copyFrom_197 : decode cX2_copyFrom 197 = .ok (.getfield 9, 3) := by decide +kernel
theorem dX2_copyFrom_200 : decode cX2_copyFrom 200 = .ok (.invokestatic 58, 3) := by decide +kernel
theorem dX2_copyFrom_203 : decode cX2_copyFrom 203 = .ok (.aload_n 1, 1) := by decide +kernel
theorem dX2_copyFrom_204 : decode cX2_copyFrom 204 = .ok (.getfield 55, 3) := by decide +kernel
theorem dX2_copyFrom_207 : decode cX2_copyFrom 207 = .ok (.aload_n 0, 1) := by decide +kernel
theorem dX2_copyFrom_208 : decode cX2_copyFrom 208 = .ok (.getfield 55, 3) := by decide +kernel
theorem dX2_copyFrom_211 : decode cX2_copyFrom 211 = .ok (.aload_n 0, 1) := by decide +kernel
theorem dX2_copyFrom_212 : decode cX2_copyFrom 212 = .ok (.getfield 9, 3) := by decide +kernel
theorem dX2_copyFrom_215 : decode cX2_copyFrom 215 = .ok (.invokestatic 58, 3) := by decide +kernel
theorem dX2_copyFrom_218 : decode cX2_copyFrom 218 = .ok (.return_, 1) := by decide +kernel
theorem dX2_has_0 : decode cX2_has 0 = .ok (.iload_n 1, 1) := by decide +kernel
theorem dX2_has_1 : decode cX2_has 1 = .ok (.iconst 0, 1) := by decide +kernel
theorem dX2_has_2 : decode cX2_has 2 = .ok (.aload_n 0, 1) := by decide +kernel
theorem dX2_has_3 : decode cX2_has 3 = .ok (.getfield 9, 3) := by decide +kernel
theorem dX2_has_6 : decode cX2_has 6 = .ok (.iconst 1, 1) := by decide +kernel
theorem dX2_has_7 : decode cX2_has 7 = .ok (.isub, 1) := by decide +kernel
theorem dX2_has_8 : decode cX2_has 8 = .ok (.invokestatic 62, 3) := by decide +kernel
theorem dX2_has_11 : decode cX2_has 11 = .ok (.ireturn, 1) := by decide +kernel
theorem dX2_add_0 : decode cX2_add 0 = .ok (.aload_n 0, 1) := by decide +kernel
theorem dX2_add_1 : decode cX2_add 1 = .ok (.getfield 9, 3) := by decide +kernel
theorem dX2_add_4 : decode cX2_add 4 = .ok (.istore 5, 2) := by decide +kernel
theorem dX2_add_6 : decode cX2_add 6 = .ok (.aload_n 0, 1) := by decide +kernel
theorem dX2_add_7 : decode cX2_add 7 = .ok (.getfield 15, 3) := by decide +kernel
theorem dX2_add_10 : decode cX2_add 10 = .ok (.iload 5, 2) := by decide +kernel
theorem dX2_add_12 : decode cX2_add 12 = .ok (.iload_n 2, 1) := by decide +kernel
theorem dX2_add_13 : decode cX2_add 13 = .ok (.iastore, 1) := by decide +kernel
theorem dX2_add_14 : decode cX2_add 14 = .ok (.aload_n 0, 1) := by decide +kernel
theorem dX2_add_15 : decode cX2_add 15 = .ok (.getfield 19, 3) := by decide +kernel
theorem dX2_add_18 : decode cX2_add 18 = .ok (.iload 5, 2) := by decide +kernel
theorem dX2_add_20 : decode cX2_add 20 = .ok (.iload_n 3, 1) := by decide +kernel
theorem dX2_add_21 : decode cX2_add 21 = .ok (.iastore, 1) := by decide +kernel
theorem dX2_add_22 : decode cX2_add 22 = .ok (.aload_n 0, 1) := by decide +kernel
theorem dX2_add_23 : decode cX2_add 23 = .ok (.getfield 22, 3) := by decide +kernel
theorem dX2_add_26 : decode cX2_add 26 = .ok (.iload 5, 2) := by decide +kernel
theorem dX2_add_28 : decode cX2_add 28 = .ok (.iload 4, 2) := by decide +kernel
theorem dX2_add_30 : decode cX2_add 30 = .ok (.iastore, 1) := by decide +kernel
theorem dX2_add_31 : decode cX2_add 31 = .ok (.aload_n 0, 1) := by decide +kernel
theorem dX2_add_32 : decode cX2_add 32 = .ok (.getfield 25, 3) := by decide +kernel
theorem dX2_add_35 : decode cX2_add 35 = .ok (.iload 5, 2) := by decide +kernel
theorem dX2_add_37 : decode cX2_add 37 = .ok (.iconst (-1), 1) := by decide +kernel
theorem dX2_add_38 : decode cX2_add 38 = .ok (.iastore, 1) := by decide +kernel
theorem dX2_add_39 : decode cX2_add 39 = .ok (.aload_n 0, 1) := by decide +kernel
theorem dX2_add_40 : decode cX2_add 40 = .ok (.getfield 28, 3) := by decide +kernel
theorem dX2_add_43 : decode cX2_add 43 = .ok (.iload 5, 2) := by decide +kernel
theorem dX2_add_45 : decode cX2_add 45 = .ok (.iconst 0, 1) := by decide +kernel
theorem dX2_add_46 : decode cX2_add 46 = .ok (.iastore, 1) := by decide +kernel
theorem dX2_add_47 : decode cX2_add 47 = .ok (.aload_n 0, 1) := by decide +kernel
theorem dX2_add_48 : decode cX2_add 48 = .ok (.getfield 31, 3) := by decide +kernel
theorem dX2_add_51 : decode cX2_add 51 = .ok (.iload 5, 2) := by decide +kernel
theorem dX2_add_53 : decode cX2_add 53 = .ok (.iconst 0, 1) := by decide +kernel
theorem dX2_add_54 : decode cX2_add 54 = .ok (.iastore, 1) := by decide +kernel
theorem dX2_add_55 : decode cX2_add 55 = .ok (.aload_n 0, 1) := by decide +kernel
theorem dX2_add_56 : decode cX2_add 56 = .ok (.getfield 34, 3) := by decide +kernel
theorem dX2_add_59 : decode cX2_add 59 = .ok (.iload 5, 2) := by decide +kernel
theorem dX2_add_61 : decode cX2_add 61 = .ok (.iconst 0, 1) := by decide +kernel
theorem dX2_add_62 : decode cX2_add 62 = .ok (.iastore, 1) := by decide +kernel
theorem dX2_add_63 : decode cX2_add 63 = .ok (.aload_n 0, 1) := by decide +kernel
theorem dX2_add_64 : decode cX2_add 64 = .ok (.getfield 37, 3) := by decide +kernel
theorem dX2_add_67 : decode cX2_add 67 = .ok (.iload 5, 2) := by decide +kernel
theorem dX2_add_69 : decode cX2_add 69 = .ok (.iconst 0, 1) := by decide +kernel
theorem dX2_add_70 : decode cX2_add 70 = .ok (.iastore, 1) := by decide +kernel
theorem dX2_add_71 : decode cX2_add 71 = .ok (.aload_n 0, 1) := by decide +kernel
theorem dX2_add_72 : decode cX2_add 72 = .ok (.getfield 40, 3) := by decide +kernel
theorem dX2_add_75 : decode cX2_add 75 = .ok (.iload 5, 2) := by decide +kernel
theorem dX2_add_77 : decode cX2_add 77 = .ok (.iconst 0, 1) := by decide +kernel
theorem dX2_add_78 : decode cX2_add 78 = .ok (.iastore, 1) := by decide +kernel
theorem dX2_add_79 : decode cX2_add 79 = .ok (.aload_n 0, 1) := by decide +kernel
theorem dX2_add_80 : decode cX2_add 80 = .ok (.getfield 43, 3) := by decide +kernel
theorem dX2_add_83 : decode cX2_add 83 = .ok (.iload 5, 2) := by decide +kernel
theorem dX2_add_85 : decode cX2_add 85 = .ok (.iconst 0, 1) := by decide +kernel
theorem dX2_add_86 : decode cX2_add 86 = .ok (.iastore, 1) := by decide +kernel
theorem dX2_add_87 : decode cX2_add 87 = .ok (.aload_n 0, 1) := by decide +kernel
theorem dX2_add_88 : decode cX2_add 88 = .ok (.getfield 46, 3) := by decide +kernel
theorem dX2_add_91 : decode cX2_add 91 = .ok (.iload 5, 2) := by decide +kernel
theorem dX2_add_93 : decode cX2_add 93 = .ok (.iconst 0, 1) := by decide +kernel
theorem dX2_add_94 : decode cX2_add 94 = .ok (.iastore, 1) := by decide +kernel
theorem dX2_add_95 : decode cX2_add 95 = .ok (.aload_n 0, 1) := by decide +kernel
theorem dX2_add_96 : decode cX2_add 96 = .ok (.getfield 49, 3) := by decide +kernel
theorem dX2_add_99 : decode cX2_add 99 = .ok (.iload 5, 2) := by decide +kernel
theorem dX2_add_101 : decode cX2_add 101 = .ok (.iconst 0, 1) := by decide +kernel
theorem dX2_add_102 : decode cX2_add 102 = .ok (.iastore, 1) := by decide +kernel
theorem dX2_add_103 : decode cX2_add 103 = .ok (.aload_n 0, 1) := by decide +kernel
theorem dX2_add_104 : decode cX2_add 104 = .ok (.getfield 52, 3) := by decide +kernel
theorem dX2_add_107 : decode cX2_add 107 = .ok (.iload 5, 2) := by decide +kernel
theorem dX2_add_109 : decode cX2_add 109 = .ok (.iconst 0, 1) := by decide +kernel
theorem dX2_add_110 : decode cX2_add 110 = .ok (.iastore, 1) := by decide +kernel
theorem dX2_add_111 : decode cX2_add 111 = .ok (.aload_n 0, 1) := by decide +kernel
theorem dX2_add_112 : decode cX2_add 112 = .ok (.dup, 1) := by decide +kernel
theorem dX2_add_113 : decode cX2_add 113 = .ok (.getfield 9, 3) := by decide +kernel
theorem dX2_add_116 : decode cX2_add 116 = .ok (.iconst 1, 1) := by decide +kernel
theorem dX2_add_117 : decode cX2_add 117 = .ok (.iadd, 1) := by decide +kernel
theorem dX2_add_118 : decode cX2_add 118 = .ok (.putfield 9, 3) := by decide +kernel
theorem dX2_add_121 : decode cX2_add 121 = .ok (.aload_n 0, 1) := by decide +kernel
theorem dX2_add_122 : decode cX2_add 122 = .ok (.aload_n 1, 1) := by decide +kernel
theorem dX2_add_123 : decode cX2_add 123 = .ok (.invokevirtual 66, 3) := by decide +kernel
theorem dX2_add_126 : decode cX2_add 126 = .ok (.iload 5, 2) := by decide +kernel
theorem dX2_add_128 : decode cX2_add 128 = .ok (.ireturn, 1) := by decide +kernel
theorem dX2_makeOrder_0 : decode cX2_makeOrder 0 = .ok (.iconst 0, 1) := by decide +kernel
theorem dX2_makeOrder_1 : decode cX2_makeOrder 1 = .ok (.istore_n 2, 1) := by decide +kernel
theorem dX2_makeOrder_2 : decode cX2_makeOrder 2 = .ok (.iconst 0, 1) := by decide +kernel
theorem dX2_makeOrder_3 : decode cX2_makeOrder 3 = .ok (.istore_n 3, 1) := by decide +kernel
theorem dX2_makeOrder_4 : decode cX2_makeOrder 4 = .ok (.iload_n 3, 1) := by decide +kernel
theorem dX2_makeOrder_5 : decode cX2_makeOrder 5 = .ok (.aload_n 1, 1) := by decide +kernel
theorem dX2_makeOrder_6 : decode cX2_makeOrder 6 = .ok (.getfield 70, 3) := by decide +kernel
theorem dX2_makeOrder_9 : decode cX2_makeOrder 9 = .ok (.if_icmp .ge 62, 3) := by decide +kernel
theorem dX2_makeOrder_12 : decode cX2_makeOrder 12 = .ok (.iconst 0, 1) := by decide +kernel
theorem dX2_makeOrder_13 : decode cX2_makeOrder 13 = .ok (.istore 4, 2) := by decide +kernel
theorem dX2_makeOrder_15 : decode cX2_makeOrder 15 = .ok (.iload 4, 2) := by decide +kernel
theorem dX2_makeOrder_17 : decode cX2_makeOrder 17 = .ok (.aload_n 0, 1) := by decide +kernel
theorem dX2_makeOrder_18 : decode cX2_makeOrder 18 = .ok (.getfield 9, 3) := by decide +kernel
theorem dX2_makeOrder_21 : decode cX2_makeOrder 21 = .ok (.if_icmp .ge 44, 3) := by decide +kernel
theorem dX2_makeOrder_24 : decode cX2_makeOrder 24 = .ok (.aload_n 0, 1) := by decide +kernel
theorem dX2_makeOrder_25 : decode cX2_makeOrder 25 = .ok (.getfield 15, 3) := by decide +kernel
theorem dX2_makeOrder_28 : decode cX2_makeOrder 28 = .ok (.iload 4, 2) := by decide +kernel
theorem dX2_makeOrder_30 : decode cX2_makeOrder 30 = .ok (.iaload, 1) := by decide +kernel
theorem dX2_makeOrder_31 : decode cX2_makeOrder 31 = .ok (.aload_n 1, 1) := by decide +kernel
theorem dX2_makeOrder_32 : decode cX2_makeOrder 32 = .ok (.getfield 73, 3) := by decide +kernel
theorem dX2_makeOrder_35 : decode cX2_makeOrder 35 = .ok (.iload_n 3, 1) := by decide +kernel
theorem dX2_makeOrder_36 : decode cX2_makeOrder 36 = .ok (.iaload, 1) := by decide +kernel
theorem dX2_makeOrder_37 : decode cX2_makeOrder 37 = .ok (.if_icmp .ne 22, 3) := by decide +kernel
theorem dX2_makeOrder_40 : decode cX2_makeOrder 40 = .ok (.iload_n 2, 1) := by decide +kernel
theorem dX2_makeOrder_41 : decode cX2_makeOrder 41 = .ok (.aload_n 0, 1) := by decide +kernel
theorem dX2_makeOrder_42 : decode cX2_makeOrder 42 = .ok (.getfield 9, 3) := by decide +kernel
theorem dX2_makeOrder_45 : decode cX2_makeOrder 45 = .ok (.if_icmp .ge 14, 3) := by decide +kernel
theorem dX2_makeOrder_48 : decode cX2_makeOrder 48 = .ok (.aload_n 0, 1) := by decide +kernel
theorem dX2_makeOrder_49 : decode cX2_makeOrder 49 = .ok (.getfield 55, 3) := by decide +kernel
theorem dX2_makeOrder_52 : decode cX2_makeOrder 52 = .ok (.iload_n 2, 1) := by decide +kernel
theorem dX2_makeOrder_53 : decode cX2_makeOrder 53 = .ok (.iload 4, 2) := by decide +kernel
theorem dX2_makeOrder_55 : decode cX2_makeOrder 55 = .ok (.iastore, 1) := by decide +kernel
theorem dX2_makeOrder_56 : decode cX2_makeOrder 56 = .ok (.iinc 2 1, 3) := by decide +kernel
theorem dX2_makeOrder_59 : decode cX2_makeOrder 59 = .ok (.iinc 4 1, 3) := by decide +kernel
theorem dX2_makeOrder_62 : decode cX2_makeOrder 62 = .ok (.goto (-47), 3) := by decide +kernel
theorem dX2_makeOrder_65 : decode cX2_makeOrder 65 = .ok (.iinc 3 1, 3) := by decide +kernel
theorem dX2_makeOrder_68 : decode cX2_makeOrder 68 = .ok (.goto (-64), 3) := by decide +kernel
theorem dX2_makeOrder_71 : decode cX2_makeOrder 71 = .ok (.return_, 1) := by decide +kernel
theorem dX2_manyOf_0 : decode cX2_manyOf 0 = .ok (.iconst 0, 1) := by decide +kernel
theorem dX2_manyOf_1 : decode cX2_manyOf 1 = .ok (.istore_n 2, 1) := by decide +kernel
theorem dX2_manyOf_2 : decode cX2_manyOf 2 = .ok (.iconst 0, 1) := by decide +kernel
theorem dX2_manyOf_3 : decode cX2_manyOf 3 = .ok (.istore_n 3, 1) := by decide +kernel
theorem dX2_manyOf_4 : decode cX2_manyOf 4 = .ok (.iload_n 3, 1) := by decide +kernel
theorem dX2_manyOf_5 : decode cX2_manyOf 5 = .ok (.aload_n 0, 1) := by decide +kernel
theorem dX2_manyOf_6 : decode cX2_manyOf 6 = .ok (.getfield 9, 3) := by decide +kernel
theorem dX2_manyOf_9 : decode cX2_manyOf 9 = .ok (.if_icmp .ge 22, 3) := by decide +kernel
theorem dX2_manyOf_12 : decode cX2_manyOf 12 = .ok (.aload_n 0, 1) := by decide +kernel
theorem dX2_manyOf_13 : decode cX2_manyOf 13 = .ok (.getfield 25, 3) := by decide +kernel
theorem dX2_manyOf_16 : decode cX2_manyOf 16 = .ok (.iload_n 3, 1) := by decide +kernel
theorem dX2_manyOf_17 : decode cX2_manyOf 17 = .ok (.iaload, 1) := by decide +kernel
theorem dX2_manyOf_18 : decode cX2_manyOf 18 = .ok (.iload_n 1, 1) := by decide +kernel
theorem dX2_manyOf_19 : decode cX2_manyOf 19 = .ok (.if_icmp .ne 6, 3) := by decide +kernel
theorem dX2_manyOf_22 : decode cX2_manyOf 22 = .ok (.iinc 2 1, 3) := by decide +kernel
theorem dX2_manyOf_25 : decode cX2_manyOf 25 = .ok (.iinc 3 1, 3) := by decide +kernel
theorem dX2_manyOf_28 : decode cX2_manyOf 28 = .ok (.goto (-24), 3) := by decide +kernel
theorem dX2_manyOf_31 : decode cX2_manyOf 31 = .ok (.iload_n 2, 1) := by decide +kernel
theorem dX2_manyOf_32 : decode cX2_manyOf 32 = .ok (.ireturn, 1) := by decide +kernel
theorem dX2_dogIsOut_0 : decode cX2_dogIsOut 0 = .ok (.aload_n 0, 1) := by decide +kernel
theorem dX2_dogIsOut_1 : decode cX2_dogIsOut 1 = .ok (.getfield 28, 3) := by decide +kernel
theorem dX2_dogIsOut_4 : decode cX2_dogIsOut 4 = .ok (.iload_n 1, 1) := by decide +kernel
theorem dX2_dogIsOut_5 : decode cX2_dogIsOut 5 = .ok (.iaload, 1) := by decide +kernel
theorem dX2_dogIsOut_6 : decode cX2_dogIsOut 6 = .ok (.istore_n 3, 1) := by decide +kernel
theorem dX2_dogIsOut_7 : decode cX2_dogIsOut 7 = .ok (.iload_n 3, 1) := by decide +kernel
theorem dX2_dogIsOut_8 : decode cX2_dogIsOut 8 = .ok (.ifCond .le 21, 3) := by decide +kernel
theorem dX2_dogIsOut_11 : decode cX2_dogIsOut 11 = .ok (.iload_n 2, 1) := by decide +kernel
theorem dX2_dogIsOut_12 : decode cX2_dogIsOut 12 = .ok (.iload_n 3, 1) := by decide +kernel
theorem dX2_dogIsOut_13 : decode cX2_dogIsOut 13 = .ok (.irem, 1) := by decide +kernel
theorem dX2_dogIsOut_14 : decode cX2_dogIsOut 14 = .ok (.aload_n 0, 1) := by decide +kernel
theorem dX2_dogIsOut_15 : decode cX2_dogIsOut 15 = .ok (.getfield 31, 3) := by decide +kernel
theorem dX2_dogIsOut_18 : decode cX2_dogIsOut 18 = .ok (.iload_n 1, 1) := by decide +kernel
theorem dX2_dogIsOut_19 : decode cX2_dogIsOut 19 = .ok (.iaload, 1) := by decide +kernel
theorem dX2_dogIsOut_20 : decode cX2_dogIsOut 20 = .ok (.iload_n 3, 1) := by decide +kernel
theorem dX2_dogIsOut_21 : decode cX2_dogIsOut 21 = .ok (.irem, 1) := by decide +kernel
theorem dX2_dogIsOut_22 : decode cX2_dogIsOut 22 = .ok (.if_icmp .ne 7, 3) := by decide +kernel
theorem dX2_dogIsOut_25 : decode cX2_dogIsOut 25 = .ok (.iconst 1, 1) := by decide +kernel
theorem dX2_dogIsOut_26 : decode cX2_dogIsOut 26 = .ok (.goto 4, 3) := by decide +kernel
theorem dX2_dogIsOut_29 : decode cX2_dogIsOut 29 = .ok (.iconst 0, 1) := by decide +kernel
theorem dX2_dogIsOut_30 : decode cX2_dogIsOut 30 = .ok (.ireturn, 1) := by decide +kernel
theorem dX2_complain_0 : decode cX2_complain 0 = .ok (.aload_n 0, 1) := by decide +kernel
theorem dX2_complain_1 : decode cX2_complain 1 = .ok (.getfield 46, 3) := by decide +kernel
theorem dX2_complain_4 : decode cX2_complain 4 = .ok (.iload_n 1, 1) := by decide +kernel
theorem dX2_complain_5 : decode cX2_complain 5 = .ok (.dup2, 1) := by decide +kernel
theorem dX2_complain_6 : decode cX2_complain 6 = .ok (.iaload, 1) := by decide +kernel
theorem dX2_complain_7 : decode cX2_complain 7 = .ok (.iconst 1, 1) := by decide +kernel
theorem dX2_complain_8 : decode cX2_complain 8 = .ok (.iadd, 1) := by decide +kernel
theorem dX2_complain_9 : decode cX2_complain 9 = .ok (.iastore, 1) := by decide +kernel
theorem dX2_complain_10 : decode cX2_complain 10 = .ok (.aload_n 0, 1) := by decide +kernel
theorem dX2_complain_11 : decode cX2_complain 11 = .ok (.getfield 49, 3) := by decide +kernel
theorem dX2_complain_14 : decode cX2_complain 14 = .ok (.iload_n 1, 1) := by decide +kernel
theorem dX2_complain_15 : decode cX2_complain 15 = .ok (.dup2, 1) := by decide +kernel
theorem dX2_complain_16 : decode cX2_complain 16 = .ok (.iaload, 1) := by decide +kernel
theorem dX2_complain_17 : decode cX2_complain 17 = .ok (.iconst 1, 1) := by decide +kernel
theorem dX2_complain_18 : decode cX2_complain 18 = .ok (.iadd, 1) := by decide +kernel
theorem dX2_complain_19 : decode cX2_complain 19 = .ok (.iastore, 1) := by decide +kernel
theorem dX2_complain_20 : decode cX2_complain 20 = .ok (.return_, 1) := by decide +kernel
theorem dX2_allComplaints_0 : decode cX2_allComplaints 0 = .ok (.iconst 0, 1) := by decide +kernel
theorem dX2_allComplaints_1 : decode cX2_allComplaints 1 = .ok (.istore_n 1, 1) := by decide +kernel
theorem dX2_allComplaints_2 : decode cX2_allComplaints 2 = .ok (.iconst 0, 1) := by decide +kernel
theorem dX2_allComplaints_3 : decode cX2_allComplaints 3 = .ok (.istore_n 2, 1) := by decide +kernel
theorem dX2_allComplaints_4 : decode cX2_allComplaints 4 = .ok (.iload_n 2, 1) := by decide +kernel
theorem dX2_allComplaints_5 : decode cX2_allComplaints 5 = .ok (.aload_n 0, 1) := by decide +kernel
theorem dX2_allComplaints_6 : decode cX2_allComplaints 6 = .ok (.getfield 9, 3) := by decide +kernel
theorem dX2_allComplaints_9 : decode cX2_allComplaints 9 = .ok (.if_icmp .ge 18, 3) := by decide +kernel
theorem dX2_allComplaints_12 : decode cX2_allComplaints 12 = .ok (.iload_n 1, 1) := by decide +kernel
theorem dX2_allComplaints_13 : decode cX2_allComplaints 13 = .ok (.aload_n 0, 1) := by decide +kernel
theorem dX2_allComplaints_14 : decode cX2_allComplaints 14 = .ok (.getfield 46, 3) := by decide +kernel
theorem dX2_allComplaints_17 : decode cX2_allComplaints 17 = .ok (.iload_n 2, 1) := by decide +kernel
theorem dX2_allComplaints_18 : decode cX2_allComplaints 18 = .ok (.iaload, 1) := by decide +kernel
theorem dX2_allComplaints_19 : decode cX2_allComplaints 19 = .ok (.iadd, 1) := by decide +kernel
theorem dX2_allComplaints_20 : decode cX2_allComplaints 20 = .ok (.istore_n 1, 1) := by decide +kernel
theorem dX2_allComplaints_21 : decode cX2_allComplaints 21 = .ok (.iinc 2 1, 3) := by decide +kernel
theorem dX2_allComplaints_24 : decode cX2_allComplaints 24 = .ok (.goto (-20), 3) := by decide +kernel
theorem dX2_allComplaints_27 : decode cX2_allComplaints 27 = .ok (.iload_n 1, 1) := by decide +kernel
theorem dX2_allComplaints_28 : decode cX2_allComplaints 28 = .ok (.ireturn, 1) := by decide +kernel
theorem dX2_papersDue_0 : decode cX2_papersDue 0 = .ok (.aload_n 0, 1) := by decide +kernel
theorem dX2_papersDue_1 : decode cX2_papersDue 1 = .ok (.getfield 34, 3) := by decide +kernel
theorem dX2_papersDue_4 : decode cX2_papersDue 4 = .ok (.iload_n 1, 1) := by decide +kernel
theorem dX2_papersDue_5 : decode cX2_papersDue 5 = .ok (.iaload, 1) := by decide +kernel
theorem dX2_papersDue_6 : decode cX2_papersDue 6 = .ok (.aload_n 0, 1) := by decide +kernel
theorem dX2_papersDue_7 : decode cX2_papersDue 7 = .ok (.getfield 40, 3) := by decide +kernel
theorem dX2_papersDue_10 : decode cX2_papersDue 10 = .ok (.iload_n 1, 1) := by decide +kernel
theorem dX2_papersDue_11 : decode cX2_papersDue 11 = .ok (.iaload, 1) := by decide +kernel
theorem dX2_papersDue_12 : decode cX2_papersDue 12 = .ok (.iadd, 1) := by decide +kernel
theorem dX2_papersDue_13 : decode cX2_papersDue 13 = .ok (.aload_n 0, 1) := by decide +kernel
theorem dX2_papersDue_14 : decode cX2_papersDue 14 = .ok (.getfield 43, 3) := by decide +kernel
theorem dX2_papersDue_17 : decode cX2_papersDue 17 = .ok (.iload_n 1, 1) := by decide +kernel
theorem dX2_papersDue_18 : decode cX2_papersDue 18 = .ok (.iaload, 1) := by decide +kernel
theorem dX2_papersDue_19 : decode cX2_papersDue 19 = .ok (.iadd, 1) := by decide +kernel
theorem dX2_papersDue_20 : decode cX2_papersDue 20 = .ok (.ireturn, 1) := by decide +kernel
theorem dX2_share_0 : decode cX2_share 0 = .ok (.aload_n 0, 1) := by decide +kernel
theorem dX2_share_1 : decode cX2_share 1 = .ok (.iload_n 1, 1) := by decide +kernel
theorem dX2_share_2 : decode cX2_share 2 = .ok (.invokevirtual 74, 3) := by decide +kernel
theorem dX2_share_5 : decode cX2_share 5 = .ok (.istore_n 2, 1) := by decide +kernel
theorem dX2_share_6 : decode cX2_share 6 = .ok (.iload_n 2, 1) := by decide +kernel
theorem dX2_share_7 : decode cX2_share 7 = .ok (.ifCond .le 16, 3) := by decide +kernel
theorem dX2_share_10 : decode cX2_share 10 = .ok (.aload_n 0, 1) := by decide +kernel
theorem dX2_share_11 : decode cX2_share 11 = .ok (.getfield 34, 3) := by decide +kernel
theorem dX2_share_14 : decode cX2_share 14 = .ok (.iload_n 1, 1) := by decide +kernel
theorem dX2_share_15 : decode cX2_share 15 = .ok (.iaload, 1) := by decide +kernel
theorem dX2_share_16 : decode cX2_share 16 = .ok (.i2f, 1) := by decide +kernel
theorem dX2_share_17 : decode cX2_share 17 = .ok (.iload_n 2, 1) := by decide +kernel
theorem dX2_share_18 : decode cX2_share 18 = .ok (.i2f, 1) := by decide +kernel
theorem dX2_share_19 : decode cX2_share 19 = .ok (.fdiv, 1) := by decide +kernel
theorem dX2_share_20 : decode cX2_share 20 = .ok (.goto 4, 3) := by decide +kernel
theorem dX2_share_23 : decode cX2_share 23 = .ok (.fconst 0, 1) := by decide +kernel
theorem dX2_share_24 : decode cX2_share 24 = .ok (.freturn, 1) := by decide +kernel
theorem dX2_tipNow_0 : decode cX2_tipNow 0 = .ok (.aload_n 0, 1) := by decide +kernel
theorem dX2_tipNow_1 : decode cX2_tipNow 1 = .ok (.getfield 52, 3) := by decide +kernel
theorem dX2_tipNow_4 : decode cX2_tipNow 4 = .ok (.iload_n 1, 1) := by decide +kernel
theorem dX2_tipNow_5 : decode cX2_tipNow 5 = .ok (.iaload, 1) := by decide +kernel
theorem dX2_tipNow_6 : decode cX2_tipNow 6 = .ok (.ifCond .eq 13, 3) := by decide +kernel
theorem dX2_tipNow_9 : decode cX2_tipNow 9 = .ok (.aload_n 0, 1) := by decide +kernel
theorem dX2_tipNow_10 : decode cX2_tipNow 10 = .ok (.getfield 49, 3) := by decide +kernel
theorem dX2_tipNow_13 : decode cX2_tipNow 13 = .ok (.iload_n 1, 1) := by decide +kernel
theorem dX2_tipNow_14 : decode cX2_tipNow 14 = .ok (.iaload, 1) := by decide +kernel
theorem dX2_tipNow_15 : decode cX2_tipNow 15 = .ok (.iconst 1, 1) := by decide +kernel
theorem dX2_tipNow_16 : decode cX2_tipNow 16 = .ok (.if_icmp .le 5, 3) := by decide +kernel
theorem dX2_tipNow_19 : decode cX2_tipNow 19 = .ok (.iconst 0, 1) := by decide +kernel
theorem dX2_tipNow_20 : decode cX2_tipNow 20 = .ok (.ireturn, 1) := by decide +kernel
theorem dX2_tipNow_21 : decode cX2_tipNow 21 = .ok (.aload_n 0, 1) := by decide +kernel
theorem dX2_tipNow_22 : decode cX2_tipNow 22 = .ok (.getfield 49, 3) := by decide +kernel
theorem dX2_tipNow_25 : decode cX2_tipNow 25 = .ok (.iload_n 1, 1) := by decide +kernel
theorem dX2_tipNow_26 : decode cX2_tipNow 26 = .ok (.iaload, 1) := by decide +kernel
theorem dX2_tipNow_27 : decode cX2_tipNow 27 = .ok (.ifCond .ne 12, 3) := by decide +kernel
theorem dX2_tipNow_30 : decode cX2_tipNow 30 = .ok (.aload_n 0, 1) := by decide +kernel
theorem dX2_tipNow_31 : decode cX2_tipNow 31 = .ok (.getfield 22, 3) := by decide +kernel
theorem dX2_tipNow_34 : decode cX2_tipNow 34 = .ok (.iload_n 1, 1) := by decide +kernel
theorem dX2_tipNow_35 : decode cX2_tipNow 35 = .ok (.iaload, 1) := by decide +kernel
theorem dX2_tipNow_36 : decode cX2_tipNow 36 = .ok (.goto 11, 3) := by decide +kernel
theorem dX2_tipNow_39 : decode cX2_tipNow 39 = .ok (.aload_n 0, 1) := by decide +kernel
theorem dX2_tipNow_40 : decode cX2_tipNow 40 = .ok (.getfield 22, 3) := by decide +kernel
theorem dX2_tipNow_43 : decode cX2_tipNow 43 = .ok (.iload_n 1, 1) := by decide +kernel
theorem dX2_tipNow_44 : decode cX2_tipNow 44 = .ok (.iaload, 1) := by decide +kernel
theorem dX2_tipNow_45 : decode cX2_tipNow 45 = .ok (.iconst 2, 1) := by decide +kernel
theorem dX2_tipNow_46 : decode cX2_tipNow 46 = .ok (.idiv, 1) := by decide +kernel
theorem dX2_tipNow_47 : decode cX2_tipNow 47 = .ok (.ireturn, 1) := by decide +kernel
theorem dX2_beginWeek_0 : decode cX2_beginWeek 0 = .ok (.iconst 0, 1) := by decide +kernel
theorem dX2_beginWeek_1 : decode cX2_beginWeek 1 = .ok (.istore_n 1, 1) := by decide +kernel
theorem dX2_beginWeek_2 : decode cX2_beginWeek 2 = .ok (.iload_n 1, 1) := by decide +kernel
theorem dX2_beginWeek_3 : decode cX2_beginWeek 3 = .ok (.aload_n 0, 1) := by decide +kernel
theorem dX2_beginWeek_4 : decode cX2_beginWeek 4 = .ok (.getfield 9, 3) := by decide +kernel
theorem dX2_beginWeek_7 : decode cX2_beginWeek 7 = .ok (.if_icmp .ge 23, 3) := by decide +kernel
theorem dX2_beginWeek_10 : decode cX2_beginWeek 10 = .ok (.aload_n 0, 1) := by decide +kernel
theorem dX2_beginWeek_11 : decode cX2_beginWeek 11 = .ok (.getfield 49, 3) := by decide +kernel
theorem dX2_beginWeek_14 : decode cX2_beginWeek 14 = .ok (.iload_n 1, 1) := by decide +kernel
theorem dX2_beginWeek_15 : decode cX2_beginWeek 15 = .ok (.iconst 0, 1) := by decide +kernel
theorem dX2_beginWeek_16 : decode cX2_beginWeek 16 = .ok (.iastore, 1) := by decide +kernel
theorem dX2_beginWeek_17 : decode cX2_beginWeek 17 = .ok (.aload_n 0, 1) := by decide +kernel
theorem dX2_beginWeek_18 : decode cX2_beginWeek 18 = .ok (.getfield 52, 3) := by decide +kernel
theorem dX2_beginWeek_21 : decode cX2_beginWeek 21 = .ok (.iload_n 1, 1) := by decide +kernel
theorem dX2_beginWeek_22 : decode cX2_beginWeek 22 = .ok (.iconst 0, 1) := by decide +kernel
theorem dX2_beginWeek_23 : decode cX2_beginWeek 23 = .ok (.iastore, 1) := by decide +kernel
theorem dX2_beginWeek_24 : decode cX2_beginWeek 24 = .ok (.iinc 1 1, 3) := by decide +kernel
theorem dX2_beginWeek_27 : decode cX2_beginWeek 27 = .ok (.goto (-25), 3) := by decide +kernel
theorem dX2_beginWeek_30 : decode cX2_beginWeek 30 = .ok (.return_, 1) := by decide +kernel
theorem dX3_init_0 : decode cX3_init 0 = .ok (.aload_n 0, 1) := by decide +kernel
theorem dX3_init_1 : decode cX3_init 1 = .ok (.invokespecial 3, 3) := by decide +kernel
theorem dX3_init_4 : decode cX3_init 4 = .ok (.aload_n 0, 1) := by decide +kernel
theorem dX3_init_5 : decode cX3_init 5 = .ok (.iconst 0, 1) := by decide +kernel
theorem dX3_init_6 : decode cX3_init 6 = .ok (.putfield 9, 3) := by decide +kernel
theorem dX3_init_9 : decode cX3_init 9 = .ok (.aload_n 0, 1) := by decide +kernel
theorem dX3_init_10 : decode cX3_init 10 = .ok (.bipush 30, 2) := by decide +kernel
theorem dX3_init_12 : decode cX3_init 12 = .ok (.newarray .int, 2) := by decide +kernel
theorem dX3_init_14 : decode cX3_init 14 = .ok (.putfield 15, 3) := by decide +kernel
theorem dX3_init_17 : decode cX3_init 17 = .ok (.aload_n 0, 1) := by decide +kernel
theorem dX3_init_18 : decode cX3_init 18 = .ok (.bipush 30, 2) := by decide +kernel
theorem dX3_init_20 : decode cX3_init 20 = .ok (.newarray .int, 2) := by decide +kernel
theorem dX3_init_22 : decode cX3_init 22 = .ok (.putfield 19, 3) := by decide +kernel
theorem dX3_init_25 : decode cX3_init 25 = .ok (.aload_n 0, 1) := by decide +kernel
theorem dX3_init_26 : decode cX3_init 26 = .ok (.bipush 30, 2) := by decide +kernel
theorem dX3_init_28 : decode cX3_init 28 = .ok (.newarray .int, 2) := by decide +kernel
theorem dX3_init_30 : decode cX3_init 30 = .ok (.putfield 22, 3) := by decide +kernel
theorem dX3_init_33 : decode cX3_init 33 = .ok (.return_, 1) := by decide +kernel
theorem dX3_copyFrom_0 : decode cX3_copyFrom 0 = .ok (.aload_n 0, 1) := by decide +kernel
theorem dX3_copyFrom_1 : decode cX3_copyFrom 1 = .ok (.aload_n 1, 1) := by decide +kernel
theorem dX3_copyFrom_2 : decode cX3_copyFrom 2 = .ok (.getfield 9, 3) := by decide +kernel
theorem dX3_copyFrom_5 : decode cX3_copyFrom 5 = .ok (.putfield 9, 3) := by decide +kernel
theorem dX3_copyFrom_8 : decode cX3_copyFrom 8 = .ok (.aload_n 1, 1) := by decide +kernel
theorem dX3_copyFrom_9 : decode cX3_copyFrom 9 = .ok (.getfield 15, 3) := by decide +kernel
theorem dX3_copyFrom_12 : decode cX3_copyFrom 12 = .ok (.aload_n 0, 1) := by decide +kernel
theorem dX3_copyFrom_13 : decode cX3_copyFrom 13 = .ok (.getfield 15, 3) := by decide +kernel
theorem dX3_copyFrom_16 : decode cX3_copyFrom 16 = .ok (.aload_n 0, 1) := by decide +kernel
theorem dX3_copyFrom_17 : decode cX3_copyFrom 17 = .ok (.getfield 9, 3) := by decide +kernel
theorem dX3_copyFrom_20 : decode cX3_copyFrom 20 = .ok (.invokestatic 25, 3) := by decide +kernel
theorem dX3_copyFrom_23 : decode cX3_copyFrom 23 = .ok (.aload_n 1, 1) := by decide +kernel
theorem dX3_copyFrom_24 : decode cX3_copyFrom 24 = .ok (.getfield 19, 3) := by decide +kernel
theorem dX3_copyFrom_27 : decode cX3_copyFrom 27 = .ok (.aload_n 0, 1) := by decide +kernel
theorem dX3_copyFrom_28 : decode cX3_copyFrom 28 = .ok (.getfield 19, 3) := by decide +kernel
theorem dX3_copyFrom_31 : decode cX3_copyFrom 31 = .ok (.aload_n 0, 1) := by decide +kernel
theorem dX3_copyFrom_32 : decode cX3_copyFrom 32 = .ok (.getfield 9, 3) := by decide +kernel
theorem dX3_copyFrom_35 : decode cX3_copyFrom 35 = .ok (.invokestatic 25, 3) := by decide +kernel
theorem dX3_copyFrom_38 : decode cX3_copyFrom 38 = .ok (.aload_n 1, 1) := by decide +kernel
theorem dX3_copyFrom_39 : decode cX3_copyFrom 39 = .ok (.getfield 22, 3) := by decide +kernel
theorem dX3_copyFrom_42 : decode cX3_copyFrom 42 = .ok (.aload_n 0, 1) := by decide +kernel
theorem dX3_copyFrom_43 : decode cX3_copyFrom 43 = .ok (.getfield 22, 3) := by decide +kernel
theorem dX3_copyFrom_46 : decode cX3_copyFrom 46 = .ok (.aload_n 0, 1) := by decide +kernel
theorem dX3_copyFrom_47 : decode cX3_copyFrom 47 = .ok (.getfield 9, 3) := by decide +kernel
theorem dX3_copyFrom_50 : decode cX3_copyFrom 50 = .ok (.invokestatic 25, 3) := by decide +kernel
theorem dX3_copyFrom_53 : decode cX3_copyFrom 53 = .ok (.return_, 1) := by decide +kernel
theorem dX3_add_0 : decode cX3_add 0 = .ok (.aload_n 0, 1) := by decide +kernel
theorem dX3_add_1 : decode cX3_add 1 = .ok (.getfield 9, 3) := by decide +kernel
theorem dX3_add_4 : decode cX3_add 4 = .ok (.istore 4, 2) := by decide +kernel
theorem dX3_add_6 : decode cX3_add 6 = .ok (.aload_n 0, 1) := by decide +kernel
theorem dX3_add_7 : decode cX3_add 7 = .ok (.getfield 15, 3) := by decide +kernel
theorem dX3_add_10 : decode cX3_add 10 = .ok (.iload 4, 2) := by decide +kernel
theorem dX3_add_12 : decode cX3_add 12 = .ok (.iload_n 1, 1) := by decide +kernel
theorem dX3_add_13 : decode cX3_add 13 = .ok (.iastore, 1) := by decide +kernel
theorem dX3_add_14 : decode cX3_add 14 = .ok (.aload_n 0, 1) := by decide +kernel
theorem dX3_add_15 : decode cX3_add 15 = .ok (.getfield 19, 3) := by decide +kernel
theorem dX3_add_18 : decode cX3_add 18 = .ok (.iload 4, 2) := by decide +kernel
theorem dX3_add_20 : decode cX3_add 20 = .ok (.iload_n 2, 1) := by decide +kernel
theorem dX3_add_21 : decode cX3_add 21 = .ok (.iastore, 1) := by decide +kernel
theorem dX3_add_22 : decode cX3_add 22 = .ok (.aload_n 0, 1) := by decide +kernel
theorem dX3_add_23 : decode cX3_add 23 = .ok (.getfield 22, 3) := by decide +kernel
theorem dX3_add_26 : decode cX3_add 26 = .ok (.iload 4, 2) := by decide +kernel
theorem dX3_add_28 : decode cX3_add 28 = .ok (.iload_n 3, 1) := by decide +kernel
theorem dX3_add_29 : decode cX3_add 29 = .ok (.iastore, 1) := by decide +kernel
theorem dX3_add_30 : decode cX3_add 30 = .ok (.aload_n 0, 1) := by decide +kernel
theorem dX3_add_31 : decode cX3_add 31 = .ok (.dup, 1) := by decide +kernel
theorem dX3_add_32 : decode cX3_add 32 = .ok (.getfield 9, 3) := by decide +kernel
theorem dX3_add_35 : decode cX3_add 35 = .ok (.iconst 1, 1) := by decide +kernel
theorem dX3_add_36 : decode cX3_add 36 = .ok (.iadd, 1) := by decide +kernel
theorem dX3_add_37 : decode cX3_add 37 = .ok (.putfield 9, 3) := by decide +kernel
theorem dX3_add_40 : decode cX3_add 40 = .ok (.iload 4, 2) := by decide +kernel
theorem dX3_add_42 : decode cX3_add 42 = .ok (.ireturn, 1) := by decide +kernel
theorem dX3_cover_0 : decode cX3_cover 0 = .ok (.iconst 0, 1) := by decide +kernel
theorem dX3_cover_1 : decode cX3_cover 1 = .ok (.istore_n 3, 1) := by decide +kernel
theorem dX3_cover_2 : decode cX3_cover 2 = .ok (.iload_n 3, 1) := by decide +kernel
theorem dX3_cover_3 : decode cX3_cover 3 = .ok (.aload_n 0, 1) := by decide +kernel
theorem dX3_cover_4 : decode cX3_cover 4 = .ok (.getfield 9, 3) := by decide +kernel
theorem dX3_cover_7 : decode cX3_cover 7 = .ok (.if_icmp .ge 41, 3) := by decide +kernel
theorem dX3_cover_10 : decode cX3_cover 10 = .ok (.aload_n 0, 1) := by decide +kernel
theorem dX3_cover_11 : decode cX3_cover 11 = .ok (.getfield 15, 3) := by decide +kernel
theorem dX3_cover_14 : decode cX3_cover 14 = .ok (.iload_n 3, 1) := by decide +kernel
theorem dX3_cover_15 : decode cX3_cover 15 = .ok (.iaload, 1) := by decide +kernel
theorem dX3_cover_16 : decode cX3_cover 16 = .ok (.iload_n 1, 1) := by decide +kernel
theorem dX3_cover_17 : decode cX3_cover 17 = .ok (.if_icmp .ne 25, 3) := by decide +kernel
theorem dX3_cover_20 : decode cX3_cover 20 = .ok (.iload_n 2, 1) := by decide +kernel
theorem dX3_cover_21 : decode cX3_cover 21 = .ok (.aload_n 0, 1) := by decide +kernel
theorem dX3_cover_22 : decode cX3_cover 22 = .ok (.getfield 19, 3) := by decide +kernel
theorem dX3_cover_25 : decode cX3_cover 25 = .ok (.iload_n 3, 1) := by decide +kernel
theorem dX3_cover_26 : decode cX3_cover 26 = .ok (.iaload, 1) := by decide +kernel
theorem dX3_cover_27 : decode cX3_cover 27 = .ok (.if_icmp .lt 15, 3) := by decide +kernel
theorem dX3_cover_30 : decode cX3_cover 30 = .ok (.iload_n 2, 1) := by decide +kernel
theorem dX3_cover_31 : decode cX3_cover 31 = .ok (.aload_n 0, 1) := by decide +kernel
theorem dX3_cover_32 : decode cX3_cover 32 = .ok (.getfield 22, 3) := by decide +kernel
theorem dX3_cover_35 : decode cX3_cover 35 = .ok (.iload_n 3, 1) := by decide +kernel
theorem dX3_cover_36 : decode cX3_cover 36 = .ok (.iaload, 1) := by decide +kernel
theorem dX3_cover_37 : decode cX3_cover 37 = .ok (.if_icmp .gt 5, 3) := by decide +kernel
theorem dX3_cover_40 : decode cX3_cover 40 = .ok (.iconst 1, 1) := by decide +kernel
theorem dX3_cover_41 : decode cX3_cover 41 = .ok (.ireturn, 1) := by decide +kernel
theorem dX3_cover_42 : decode cX3_cover 42 = .ok (.iinc 3 1, 3) := by decide +kernel
theorem dX3_cover_45 : decode cX3_cover 45 = .ok (.goto (-43), 3) := by decide +kernel
theorem dX3_cover_48 : decode cX3_cover 48 = .ok (.iconst 0, 1) := by decide +kernel
theorem dX3_cover_49 : decode cX3_cover 49 = .ok (.ireturn, 1) := by decide +kernel
theorem dX4_init_0 : decode cX4_init 0 = .ok (.aload_n 0, 1) := by decide +kernel
theorem dX4_init_1 : decode cX4_init 1 = .ok (.invokespecial 3, 3) := by decide +kernel
theorem dX4_init_4 : decode cX4_init 4 = .ok (.aload_n 0, 1) := by decide +kernel
theorem dX4_init_5 : decode cX4_init 5 = .ok (.iconst 1, 1) := by decide +kernel
theorem dX4_init_6 : decode cX4_init 6 = .ok (.putfield 9, 3) := by decide +kernel
theorem dX4_init_9 : decode cX4_init 9 = .ok (.aload_n 0, 1) := by decide +kernel
theorem dX4_init_10 : decode cX4_init 10 = .ok (.bipush 20, 2) := by decide +kernel
theorem dX4_init_12 : decode cX4_init 12 = .ok (.newarray .int, 2) := by decide +kernel
theorem dX4_init_14 : decode cX4_init 14 = .ok (.putfield 15, 3) := by decide +kernel
theorem dX4_init_17 : decode cX4_init 17 = .ok (.aload_n 0, 1) := by decide +kernel
theorem dX4_init_18 : decode cX4_init 18 = .ok (.bipush 20, 2) := by decide +kernel
theorem dX4_init_20 : decode cX4_init 20 = .ok (.newarray .int, 2) := by decide +kernel
theorem dX4_init_22 : decode cX4_init 22 = .ok (.putfield 19, 3) := by decide +kernel
theorem dX4_init_25 : decode cX4_init 25 = .ok (.aload_n 0, 1) := by decide +kernel
theorem dX4_init_26 : decode cX4_init 26 = .ok (.bipush 20, 2) := by decide +kernel
theorem dX4_init_28 : decode cX4_init 28 = .ok (.newarray .int, 2) := by decide +kernel
theorem dX4_init_30 : decode cX4_init 30 = .ok (.putfield 22, 3) := by decide +kernel
theorem dX4_init_33 : decode cX4_init 33 = .ok (.aload_n 0, 1) := by decide +kernel
theorem dX4_init_34 : decode cX4_init 34 = .ok (.bipush 20, 2) := by decide +kernel
theorem dX4_init_36 : decode cX4_init 36 = .ok (.newarray .int, 2) := by decide +kernel
theorem dX4_init_38 : decode cX4_init 38 = .ok (.putfield 25, 3) := by decide +kernel
theorem dX4_init_41 : decode cX4_init 41 = .ok (.aload_n 0, 1) := by decide +kernel
theorem dX4_init_42 : decode cX4_init 42 = .ok (.bipush 20, 2) := by decide +kernel
theorem dX4_init_44 : decode cX4_init 44 = .ok (.newarray .int, 2) := by decide +kernel
theorem dX4_init_46 : decode cX4_init 46 = .ok (.putfield 28, 3) := by decide +kernel
theorem dX4_init_49 : decode cX4_init 49 = .ok (.aload_n 0, 1) := by decide +kernel
theorem dX4_init_50 : decode cX4_init 50 = .ok (.bipush 20, 2) := by decide +kernel
theorem dX4_init_52 : decode cX4_init 52 = .ok (.newarray .int, 2) := by decide +kernel
theorem dX4_init_54 : decode cX4_init 54 = .ok (.putfield 31, 3) := by decide +kernel
theorem dX4_init_57 : decode cX4_init 57 = .ok (.aload_n 0, 1) := by decide +kernel
theorem dX4_init_58 : decode cX4_init 58 = .ok (.bipush 20, 2) := by decide +kernel
theorem dX4_init_60 : decode cX4_init 60 = .ok (.newarray .int, 2) := by decide +kernel
theorem dX4_init_62 : decode cX4_init 62 = .ok (.putfield 34, 3) := by decide +kernel
theorem dX4_init_65 : decode cX4_init 65 = .ok (.aload_n 0, 1) := by decide +kernel
theorem dX4_init_66 : decode cX4_init 66 = .ok (.bipush 20, 2) := by decide +kernel
theorem dX4_init_68 : decode cX4_init 68 = .ok (.newarray .int, 2) := by decide +kernel
theorem dX4_init_70 : decode cX4_init 70 = .ok (.putfield 37, 3) := by decide +kernel
theorem dX4_init_73 : decode cX4_init 73 = .ok (.aload_n 0, 1) := by decide +kernel
theorem dX4_init_74 : decode cX4_init 74 = .ok (.getfield 15, 3) := by decide +kernel
theorem dX4_init_77 : decode cX4_init 77 = .ok (.iconst 0, 1) := by decide +kernel
theorem dX4_init_78 : decode cX4_init 78 = .ok (.iconst (-1), 1) := by decide +kernel
theorem dX4_init_79 : decode cX4_init 79 = .ok (.iastore, 1) := by decide +kernel
theorem dX4_init_80 : decode cX4_init 80 = .ok (.aload_n 0, 1) := by decide +kernel
theorem dX4_init_81 : decode cX4_init 81 = .ok (.getfield 34, 3) := by decide +kernel
theorem dX4_init_84 : decode cX4_init 84 = .ok (.iconst 0, 1) := by decide +kernel
theorem dX4_init_85 : decode cX4_init 85 = .ok (.iconst 1, 1) := by decide +kernel
theorem dX4_init_86 : decode cX4_init 86 = .ok (.iastore, 1) := by decide +kernel
theorem dX4_init_87 : decode cX4_init 87 = .ok (.return_, 1) := by decide +kernel
theorem dX4_copyFrom_0 : decode cX4_copyFrom 0 = .ok (.aload_n 0, 1) := by decide +kernel
theorem dX4_copyFrom_1 : decode cX4_copyFrom 1 = .ok (.aload_n 1, 1) := by decide +kernel
theorem dX4_copyFrom_2 : decode cX4_copyFrom 2 = .ok (.getfield 9, 3) := by decide +kernel
theorem dX4_copyFrom_5 : decode cX4_copyFrom 5 = .ok (.putfield 9, 3) := by decide +kernel
theorem dX4_copyFrom_8 : decode cX4_copyFrom 8 = .ok (.aload_n 1, 1) := by decide +kernel
theorem dX4_copyFrom_9 : decode cX4_copyFrom 9 = .ok (.getfield 15, 3) := by decide +kernel
theorem dX4_copyFrom_12 : decode cX4_copyFrom 12 = .ok (.aload_n 0, 1) := by decide +kernel
theorem dX4_copyFrom_13 : decode cX4_copyFrom 13 = .ok (.getfield 15, 3) := by decide +kernel
theorem dX4_copyFrom_16 : decode cX4_copyFrom 16 = .ok (.aload_n 0, 1) := by decide +kernel
theorem dX4_copyFrom_17 : decode cX4_copyFrom 17 = .ok (.getfield 9, 3) := by decide +kernel
theorem dX4_copyFrom_20 : decode cX4_copyFrom 20 = .ok (.invokestatic 40, 3) := by decide +kernel
theorem dX4_copyFrom_23 : decode cX4_copyFrom 23 = .ok (.aload_n 1, 1) := by decide +kernel
theorem dX4_copyFrom_24 : decode cX4_copyFrom 24 = .ok (.getfield 19, 3) := by decide +kernel
theorem dX4_copyFrom_27 : decode cX4_copyFrom 27 = .ok (.aload_n 0, 1) := by decide +kernel
theorem dX4_copyFrom_28 : decode cX4_copyFrom 28 = .ok (.getfield 19, 3) := by decide +kernel
theorem dX4_copyFrom_31 : decode cX4_copyFrom 31 = .ok (.aload_n 0, 1) := by decide +kernel
theorem dX4_copyFrom_32 : decode cX4_copyFrom 32 = .ok (.getfield 9, 3) := by decide +kernel
theorem dX4_copyFrom_35 : decode cX4_copyFrom 35 = .ok (.invokestatic 40, 3) := by decide +kernel
theorem dX4_copyFrom_38 : decode cX4_copyFrom 38 = .ok (.aload_n 1, 1) := by decide +kernel
theorem dX4_copyFrom_39 : decode cX4_copyFrom 39 = .ok (.getfield 22, 3) := by decide +kernel
theorem dX4_copyFrom_42 : decode cX4_copyFrom 42 = .ok (.aload_n 0, 1) := by decide +kernel
theorem dX4_copyFrom_43 : decode cX4_copyFrom 43 = .ok (.getfield 22, 3) := by decide +kernel
theorem dX4_copyFrom_46 : decode cX4_copyFrom 46 = .ok (.aload_n 0, 1) := by decide +kernel
theorem dX4_copyFrom_47 : decode cX4_copyFrom 47 = .ok (.getfield 9, 3) := by decide +kernel
theorem dX4_copyFrom_50 : decode cX4_copyFrom 50 = .ok (.invokestatic 40, 3) := by decide +kernel
theorem dX4_copyFrom_53 : decode cX4_copyFrom 53 = .ok (.aload_n 1, 1) := by decide +kernel
theorem dX4_copyFrom_54 : decode cX4_copyFrom 54 = .ok (.getfield 25, 3) := by decide +kernel
theorem dX4_copyFrom_57 : decode cX4_copyFrom 57 = .ok (.aload_n 0, 1) := by decide +kernel
theorem dX4_copyFrom_58 : decode cX4_copyFrom 58 = .ok (.getfield 25, 3) := by decide +kernel
theorem dX4_copyFrom_61 : decode cX4_copyFrom 61 = .ok (.aload_n 0, 1) := by decide +kernel
theorem dX4_copyFrom_62 : decode cX4_copyFrom 62 = .ok (.getfield 9, 3) := by decide +kernel
theorem dX4_copyFrom_65 : decode cX4_copyFrom 65 = .ok (.invokestatic 40, 3) := by decide +kernel
theorem dX4_copyFrom_68 : decode cX4_copyFrom 68 = .ok (.aload_n 1, 1) := by decide +kernel
theorem dX4_copyFrom_69 : decode cX4_copyFrom 69 = .ok (.getfield 28, 3) := by decide +kernel
theorem dX4_copyFrom_72 : decode cX4_copyFrom 72 = .ok (.aload_n 0, 1) := by decide +kernel
theorem dX4_copyFrom_73 : decode cX4_copyFrom 73 = .ok (.getfield 28, 3) := by decide +kernel
theorem dX4_copyFrom_76 : decode cX4_copyFrom 76 = .ok (.aload_n 0, 1) := by decide +kernel
theorem dX4_copyFrom_77 : decode cX4_copyFrom 77 = .ok (.getfield 9, 3) := by decide +kernel
theorem dX4_copyFrom_80 : decode cX4_copyFrom 80 = .ok (.invokestatic 40, 3) := by decide +kernel
theorem dX4_copyFrom_83 : decode cX4_copyFrom 83 = .ok (.aload_n 1, 1) := by decide +kernel
theorem dX4_copyFrom_84 : decode cX4_copyFrom 84 = .ok (.getfield 31, 3) := by decide +kernel
theorem dX4_copyFrom_87 : decode cX4_copyFrom 87 = .ok (.aload_n 0, 1) := by decide +kernel
theorem dX4_copyFrom_88 : decode cX4_copyFrom 88 = .ok (.getfield 31, 3) := by decide +kernel
theorem dX4_copyFrom_91 : decode cX4_copyFrom 91 = .ok (.aload_n 0, 1) := by decide +kernel
theorem dX4_copyFrom_92 : decode cX4_copyFrom 92 = .ok (.getfield 9, 3) := by decide +kernel
theorem dX4_copyFrom_95 : decode cX4_copyFrom 95 = .ok (.invokestatic 40, 3) := by decide +kernel
theorem dX4_copyFrom_98 : decode cX4_copyFrom 98 = .ok (.aload_n 1, 1) := by decide +kernel
theorem dX4_copyFrom_99 : decode cX4_copyFrom 99 = .ok (.getfield 34, 3) := by decide +kernel
theorem dX4_copyFrom_102 : decode cX4_copyFrom 102 = .ok (.aload_n 0, 1) := by decide +kernel
theorem dX4_copyFrom_103 : decode cX4_copyFrom 103 = .ok (.getfield 34, 3) := by decide +kernel
theorem dX4_copyFrom_106 : decode cX4_copyFrom 106 = .ok (.aload_n 0, 1) := by decide +kernel
theorem dX4_copyFrom_107 : decode cX4_copyFrom 107 = .ok (.getfield 9, 3) := by decide +kernel
theorem dX4_copyFrom_110 : decode cX4_copyFrom 110 = .ok (.invokestatic 40, 3) := by decide +kernel
theorem dX4_copyFrom_113 : decode cX4_copyFrom 113 = .ok (.aload_n 1, 1) := by decide +kernel
theorem dX4_copyFrom_114 : decode cX4_copyFrom 114 = .ok (.getfield 37, 3) := by decide +kernel
theorem dX4_copyFrom_117 : decode cX4_copyFrom 117 = .ok (.aload_n 0, 1) := by decide +kernel
theorem dX4_copyFrom_118 : decode cX4_copyFrom 118 = .ok (.getfield 37, 3) := by decide +kernel
theorem dX4_copyFrom_121 : decode cX4_copyFrom 121 = .ok (.aload_n 0, 1) := by decide +kernel
theorem dX4_copyFrom_122 : decode cX4_copyFrom 122 = .ok (.getfield 9, 3) := by decide +kernel
theorem dX4_copyFrom_125 : decode cX4_copyFrom 125 = .ok (.invokestatic 40, 3) := by decide +kernel
theorem dX4_copyFrom_128 : decode cX4_copyFrom 128 = .ok (.return_, 1) := by decide +kernel
theorem dX4_has_0 : decode cX4_has 0 = .ok (.iload_n 1, 1) := by decide +kernel
theorem dX4_has_1 : decode cX4_has 1 = .ok (.iconst 0, 1) := by decide +kernel
theorem dX4_has_2 : decode cX4_has 2 = .ok (.aload_n 0, 1) := by decide +kernel
theorem dX4_has_3 : decode cX4_has 3 = .ok (.getfield 9, 3) := by decide +kernel
theorem dX4_has_6 : decode cX4_has 6 = .ok (.iconst 1, 1) := by decide +kernel
theorem dX4_has_7 : decode cX4_has 7 = .ok (.isub, 1) := by decide +kernel
theorem dX4_has_8 : decode cX4_has 8 = .ok (.invokestatic 44, 3) := by decide +kernel
theorem dX4_has_11 : decode cX4_has 11 = .ok (.ireturn, 1) := by decide +kernel
theorem dX4_add_0 : decode cX4_add 0 = .ok (.aload_n 0, 1) := by decide +kernel
theorem dX4_add_1 : decode cX4_add 1 = .ok (.getfield 9, 3) := by decide +kernel
theorem dX4_add_4 : decode cX4_add 4 = .ok (.istore 5, 2) := by decide +kernel
theorem dX4_add_6 : decode cX4_add 6 = .ok (.aload_n 0, 1) := by decide +kernel
theorem dX4_add_7 : decode cX4_add 7 = .ok (.getfield 15, 3) := by decide +kernel
theorem dX4_add_10 : decode cX4_add 10 = .ok (.iload 5, 2) := by decide +kernel
theorem dX4_add_12 : decode cX4_add 12 = .ok (.iload_n 1, 1) := by decide +kernel
theorem dX4_add_13 : decode cX4_add 13 = .ok (.iastore, 1) := by decide +kernel
theorem dX4_add_14 : decode cX4_add 14 = .ok (.aload_n 0, 1) := by decide +kernel
theorem dX4_add_15 : decode cX4_add 15 = .ok (.getfield 19, 3) := by decide +kernel
theorem dX4_add_18 : decode cX4_add 18 = .ok (.iload 5, 2) := by decide +kernel
theorem dX4_add_20 : decode cX4_add 20 = .ok (.iload_n 2, 1) := by decide +kernel
theorem dX4_add_21 : decode cX4_add 21 = .ok (.iastore, 1) := by decide +kernel
theorem dX4_add_22 : decode cX4_add 22 = .ok (.aload_n 0, 1) := by decide +kernel
theorem dX4_add_23 : decode cX4_add 23 = .ok (.getfield 22, 3) := by decide +kernel
theorem dX4_add_26 : decode cX4_add 26 = .ok (.iload 5, 2) := by decide +kernel
theorem dX4_add_28 : decode cX4_add 28 = .ok (.iload_n 3, 1) := by decide +kernel
theorem dX4_add_29 : decode cX4_add 29 = .ok (.iastore, 1) := by decide +kernel
theorem dX4_add_30 : decode cX4_add 30 = .ok (.aload_n 0, 1) := by decide +kernel
theorem dX4_add_31 : decode cX4_add 31 = .ok (.getfield 25, 3) := by decide +kernel
theorem dX4_add_34 : decode cX4_add 34 = .ok (.iload 5, 2) := by decide +kernel
theorem dX4_add_36 : decode cX4_add 36 = .ok (.iload 4, 2) := by decide +kernel
theorem dX4_add_38 : decode cX4_add 38 = .ok (.iastore, 1) := by decide +kernel
theorem dX4_add_39 : decode cX4_add 39 = .ok (.aload_n 0, 1) := by decide +kernel
theorem dX4_add_40 : decode cX4_add 40 = .ok (.getfield 28, 3) := by decide +kernel
theorem dX4_add_43 : decode cX4_add 43 = .ok (.iload 5, 2) := by decide +kernel
theorem dX4_add_45 : decode cX4_add 45 = .ok (.aload_n 0, 1) := by decide +kernel
theorem dX4_add_46 : decode cX4_add 46 = .ok (.getfield 28, 3) := by decide +kernel
theorem dX4_add_49 : decode cX4_add 49 = .ok (.iload_n 1, 1) := by decide +kernel
theorem dX4_add_50 : decode cX4_add 50 = .ok (.iaload, 1) := by decide +kernel
theorem dX4_add_51 : decode cX4_add 51 = .ok (.iconst 1, 1) := by decide +kernel
theorem dX4_add_52 : decode cX4_add 52 = .ok (.iadd, 1) := by decide +kernel
theorem dX4_add_53 : decode cX4_add 53 = .ok (.iastore, 1) := by decide +kernel
theorem dX4_add_54 : decode cX4_add 54 = .ok (.aload_n 0, 1) := by decide +kernel
theorem dX4_add_55 : decode cX4_add 55 = .ok (.getfield 31, 3) := by decide +kernel
theorem dX4_add_58 : decode cX4_add 58 = .ok (.iload 5, 2) := by decide +kernel
theorem dX4_add_60 : decode cX4_add 60 = .ok (.aload_n 0, 1) := by decide +kernel
theorem dX4_add_61 : decode cX4_add 61 = .ok (.getfield 31, 3) := by decide +kernel
theorem dX4_add_64 : decode cX4_add 64 = .ok (.iload_n 1, 1) := by decide +kernel
theorem dX4_add_65 : decode cX4_add 65 = .ok (.iaload, 1) := by decide +kernel
theorem dX4_add_66 : decode cX4_add 66 = .ok (.iload_n 2, 1) := by decide +kernel
theorem dX4_add_67 : decode cX4_add 67 = .ok (.iadd, 1) := by decide +kernel
theorem dX4_add_68 : decode cX4_add 68 = .ok (.iastore, 1) := by decide +kernel
theorem dX4_add_69 : decode cX4_add 69 = .ok (.aload_n 0, 1) := by decide +kernel
theorem dX4_add_70 : decode cX4_add 70 = .ok (.getfield 34, 3) := by decide +kernel
theorem dX4_add_73 : decode cX4_add 73 = .ok (.iload 5, 2) := by decide +kernel
theorem dX4_add_75 : decode cX4_add 75 = .ok (.iload 4, 2) := by decide +kernel
theorem dX4_add_77 : decode cX4_add 77 = .ok (.iconst 1, 1) := by decide +kernel
theorem dX4_add_78 : decode cX4_add 78 = .ok (.if_icmp .ne 7, 3) := by decide +kernel
theorem dX4_add_81 : decode cX4_add 81 = .ok (.iconst 0, 1) := by decide +kernel
theorem dX4_add_82 : decode cX4_add 82 = .ok (.goto 9, 3) := by decide +kernel
theorem dX4_add_85 : decode cX4_add 85 = .ok (.aload_n 0, 1) := by decide +kernel
theorem dX4_add_86 : decode cX4_add 86 = .ok (.getfield 34, 3) := by decide +kernel
theorem dX4_add_89 : decode cX4_add 89 = .ok (.iload_n 1, 1) := by decide +kernel
theorem dX4_add_90 : decode cX4_add 90 = .ok (.iaload, 1) := by decide +kernel
theorem dX4_add_91 : decode cX4_add 91 = .ok (.iastore, 1) := by decide +kernel
theorem dX4_add_92 : decode cX4_add 92 = .ok (.aload_n 0, 1) := by decide +kernel
theorem dX4_add_93 : decode cX4_add 93 = .ok (.iload 5, 2) := by decide +kernel
theorem dX4_add_95 : decode cX4_add 95 = .ok (.invokevirtual 48, 3) := by decide +kernel
theorem dX4_add_98 : decode cX4_add 98 = .ok (.aload_n 0, 1) := by decide +kernel
theorem dX4_add_99 : decode cX4_add 99 = .ok (.dup, 1) := by decide +kernel
theorem dX4_add_100 : decode cX4_add 100 = .ok (.getfield 9, 3) := by decide +kernel
theorem dX4_add_103 : decode cX4_add 103 = .ok (.iconst 1, 1) := by decide +kernel
theorem dX4_add_104 : decode cX4_add 104 = .ok (.iadd, 1) := by decide +kernel
theorem dX4_add_105 : decode cX4_add 105 = .ok (.putfield 9, 3) := by decide +kernel
theorem dX4_add_108 : decode cX4_add 108 = .ok (.iload 5, 2) := by decide +kernel
theorem dX4_add_110 : decode cX4_add 110 = .ok (.ireturn, 1) := by decide +kernel
theorem dX4_putInOrder_0 : decode cX4_putInOrder 0 = .ok (.aload_n 0, 1) := by decide +kernel
theorem dX4_putInOrder_1 : decode cX4_putInOrder 1 = .ok (.getfield 15, 3) := by decide +kernel
theorem dX4_putInOrder_4 : decode cX4_putInOrder 4 = .ok (.iload_n 1, 1) := by decide +kernel
theorem dX4_putInOrder_5 : decode cX4_putInOrder 5 = .ok (.iaload, 1) := by decide +kernel
theorem dX4_putInOrder_6 : decode cX4_putInOrder 6 = .ok (.istore_n 2, 1) := by decide +kernel
theorem dX4_putInOrder_7 : decode cX4_putInOrder 7 = .ok (.iconst 0, 1) := by decide +kernel
theorem dX4_putInOrder_8 : decode cX4_putInOrder 8 = .ok (.istore_n 3, 1) := by decide +kernel
theorem dX4_putInOrder_9 : decode cX4_putInOrder 9 = .ok (.iload_n 3, 1) := by decide +kernel
theorem dX4_putInOrder_10 : decode cX4_putInOrder 10 = .ok (.aload_n 0, 1) := by decide +kernel
theorem dX4_putInOrder_11 : decode cX4_putInOrder 11 = .ok (.getfield 9, 3) := by decide +kernel
theorem dX4_putInOrder_14 : decode cX4_putInOrder 14 = .ok (.if_icmp .ge 19, 3) := by decide +kernel
theorem dX4_putInOrder_17 : decode cX4_putInOrder 17 = .ok (.aload_n 0, 1) := by decide +kernel
theorem dX4_putInOrder_18 : decode cX4_putInOrder 18 = .ok (.getfield 37, 3) := by decide +kernel
theorem dX4_putInOrder_21 : decode cX4_putInOrder 21 = .ok (.iload_n 3, 1) := by decide +kernel
theorem dX4_putInOrder_22 : decode cX4_putInOrder 22 = .ok (.iaload, 1) := by decide +kernel
theorem dX4_putInOrder_23 : decode cX4_putInOrder 23 = .ok (.iload_n 2, 1) := by decide +kernel
theorem dX4_putInOrder_24 : decode cX4_putInOrder 24 = .ok (.if_icmp .eq 9, 3) := by decide +kernel
theorem dX4_putInOrder_27 : decode cX4_putInOrder 27 = .ok (.iinc 3 1, 3) := by decide +kernel
theorem dX4_putInOrder_30 : decode cX4_putInOrder 30 = .ok (.goto (-21), 3) := by decide +kernel
theorem dX4_putInOrder_33 : decode cX4_putInOrder 33 = .ok (.iinc 3 1, 3) := by decide +kernel
theorem dX4_putInOrder_36 : decode cX4_putInOrder 36 = .ok (.iload_n 3, 1) := by decide +kernel
theorem dX4_putInOrder_37 : decode cX4_putInOrder 37 = .ok (.aload_n 0, 1) := by decide +kernel
theorem dX4_putInOrder_38 : decode cX4_putInOrder 38 = .ok (.getfield 9, 3) := by decide +kernel
theorem dX4_putInOrder_41 : decode cX4_putInOrder 41 = .ok (.if_icmp .ge 29, 3) := by decide +kernel
theorem dX4_putInOrder_44 : decode cX4_putInOrder 44 = .ok (.aload_n 0, 1) := by decide +kernel
theorem dX4_putInOrder_45 : decode cX4_putInOrder 45 = .ok (.getfield 28, 3) := by decide +kernel
theorem dX4_putInOrder_48 : decode cX4_putInOrder 48 = .ok (.aload_n 0, 1) := by decide +kernel
theorem dX4_putInOrder_49 : decode cX4_putInOrder 49 = .ok (.getfield 37, 3) := by decide +kernel
theorem dX4_putInOrder_52 : decode cX4_putInOrder 52 = .ok (.iload_n 3, 1) := by decide +kernel
theorem dX4_putInOrder_53 : decode cX4_putInOrder 53 = .ok (.iaload, 1) := by decide +kernel
theorem dX4_putInOrder_54 : decode cX4_putInOrder 54 = .ok (.iaload, 1) := by decide +kernel
theorem dX4_putInOrder_55 : decode cX4_putInOrder 55 = .ok (.aload_n 0, 1) := by decide +kernel
theorem dX4_putInOrder_56 : decode cX4_putInOrder 56 = .ok (.getfield 28, 3) := by decide +kernel
theorem dX4_putInOrder_59 : decode cX4_putInOrder 59 = .ok (.iload_n 2, 1) := by decide +kernel
theorem dX4_putInOrder_60 : decode cX4_putInOrder 60 = .ok (.iaload, 1) := by decide +kernel
theorem dX4_putInOrder_61 : decode cX4_putInOrder 61 = .ok (.if_icmp .le 9, 3) := by decide +kernel
theorem dX4_putInOrder_64 : decode cX4_putInOrder 64 = .ok (.iinc 3 1, 3) := by decide +kernel
theorem dX4_putInOrder_67 : decode cX4_putInOrder 67 = .ok (.goto (-31), 3) := by decide +kernel
theorem dX4_putInOrder_70 : decode cX4_putInOrder 70 = .ok (.aload_n 0, 1) := by decide +kernel
theorem dX4_putInOrder_71 : decode cX4_putInOrder 71 = .ok (.getfield 9, 3) := by decide +kernel
theorem dX4_putInOrder_74 : decode cX4_putInOrder 74 = .ok (.istore 4, 2) := by decide +kernel
theorem dX4_putInOrder_76 : decode cX4_putInOrder 76 = .ok (.iload 4, 2) := by decide +kernel
theorem dX4_putInOrder_78 : decode cX4_putInOrder 78 = .ok (.iload_n 3, 1) := by decide +kernel
theorem dX4_putInOrder_79 : decode cX4_putInOrder 79 = .ok (.if_icmp .le 25, 3) := by decide +kernel
theorem dX4_putInOrder_82 : decode cX4_putInOrder 82 = .ok (.aload_n 0, 1) := by decide +kernel
theorem dX4_putInOrder_83 : decode cX4_putInOrder 83 = .ok (.getfield 37, 3) := by decide +kernel
theorem dX4_putInOrder_86 : decode cX4_putInOrder 86 = .ok (.iload 4, 2) := by decide +kernel
theorem dX4_putInOrder_88 : decode cX4_putInOrder 88 = .ok (.aload_n 0, 1) := by decide +kernel
theorem dX4_putInOrder_89 : decode cX4_putInOrder 89 = .ok (.getfield 37, 3) := by decide +kernel
theorem dX4_putInOrder_92 : decode cX4_putInOrder 92 = .ok (.iload 4, 2) := by decide +kernel
theorem dX4_putInOrder_94 : decode cX4_putInOrder 94 = .ok (.iconst 1, 1) := by decide +kernel
theorem dX4_putInOrder_95 : decode cX4_putInOrder 95 = .ok (.isub, 1) := by decide +kernel
theorem dX4_putInOrder_96 : decode cX4_putInOrder 96 = .ok (.iaload, 1) := by decide +kernel
theorem dX4_putInOrder_97 : decode cX4_putInOrder 97 = .ok (.iastore, 1) := by decide +kernel
theorem dX4_putInOrder_98 : decode cX4_putInOrder 98 = .ok (.iinc 4 (-1), 3) := by decide +kernel
theorem dX4_putInOrder_101 : decode cX4_putInOrder 101 = .ok (.goto (-25), 3) := by decide +kernel
theorem dX4_putInOrder_104 : decode cX4_putInOrder 104 = .ok (.iload_n 3, 1) := by decide +kernel
theorem dX4_putInOrder_105 : decode cX4_putInOrder 105 = .ok (.aload_n 0, 1) := by decide +kernel
theorem dX4_putInOrder_106 : decode cX4_putInOrder 106 = .ok (.getfield 9, 3) := by decide +kernel
theorem dX4_putInOrder_109 : decode cX4_putInOrder 109 = .ok (.if_icmp .gt 10, 3) := by decide +kernel
theorem dX4_putInOrder_112 : decode cX4_putInOrder 112 = .ok (.aload_n 0, 1) := by decide +kernel
theorem dX4_putInOrder_113 : decode cX4_putInOrder 113 = .ok (.getfield 37, 3) := by decide +kernel
theorem dX4_putInOrder_116 : decode cX4_putInOrder 116 = .ok (.iload_n 3, 1) := by decide +kernel
theorem dX4_putInOrder_117 : decode cX4_putInOrder 117 = .ok (.iload_n 1, 1) := by decide +kernel
theorem dX4_putInOrder_118 : decode cX4_putInOrder 118 = .ok (.iastore, 1) := by decide +kernel
theorem dX4_putInOrder_119 : decode cX4_putInOrder 119 = .ok (.return_, 1) := by decide +kernel
theorem dX4_isAtOrBeyond_0 : decode cX4_isAtOrBeyond 0 = .ok (.iload_n 1, 1) := by decide +kernel
theorem dX4_isAtOrBeyond_1 : decode cX4_isAtOrBeyond 1 = .ok (.istore_n 3, 1) := by decide +kernel
theorem dX4_isAtOrBeyond_2 : decode cX4_isAtOrBeyond 2 = .ok (.iconst 0, 1) := by decide +kernel
theorem dX4_isAtOrBeyond_3 : decode cX4_isAtOrBeyond 3 = .ok (.istore 4, 2) := by decide +kernel
theorem dX4_isAtOrBeyond_5 : decode cX4_isAtOrBeyond 5 = .ok (.iload 4, 2) := by decide +kernel
theorem dX4_isAtOrBeyond_7 : decode cX4_isAtOrBeyond 7 = .ok (.bipush 20, 2) := by decide +kernel
theorem dX4_isAtOrBeyond_9 : decode cX4_isAtOrBeyond 9 = .ok (.if_icmp .ge 21, 3) := by decide +kernel
theorem dX4_isAtOrBeyond_12 : decode cX4_isAtOrBeyond 12 = .ok (.iload_n 3, 1) := by decide +kernel
theorem dX4_isAtOrBeyond_13 : decode cX4_isAtOrBeyond 13 = .ok (.iload_n 2, 1) := by decide +kernel
theorem dX4_isAtOrBeyond_14 : decode cX4_isAtOrBeyond 14 = .ok (.if_icmp .le 16, 3) := by decide +kernel
theorem dX4_isAtOrBeyond_17 : decode cX4_isAtOrBeyond 17 = .ok (.aload_n 0, 1) := by decide +kernel
theorem dX4_isAtOrBeyond_18 : decode cX4_isAtOrBeyond 18 = .ok (.getfield 15, 3) := by decide +kernel
theorem dX4_isAtOrBeyond_21 : decode cX4_isAtOrBeyond 21 = .ok (.iload_n 3, 1) := by decide +kernel
theorem dX4_isAtOrBeyond_22 : decode cX4_isAtOrBeyond 22 = .ok (.iaload, 1) := by decide +kernel
theorem dX4_isAtOrBeyond_23 : decode cX4_isAtOrBeyond 23 = .ok (.istore_n 3, 1) := by decide +kernel
theorem dX4_isAtOrBeyond_24 : decode cX4_isAtOrBeyond 24 = .ok (.iinc 4 1, 3) := by decide +kernel
theorem dX4_isAtOrBeyond_27 : decode cX4_isAtOrBeyond 27 = .ok (.goto (-22), 3) := by decide +kernel
theorem dX4_isAtOrBeyond_30 : decode cX4_isAtOrBeyond 30 = .ok (.iload_n 3, 1) := by decide +kernel
theorem dX4_isAtOrBeyond_31 : decode cX4_isAtOrBeyond 31 = .ok (.iload_n 2, 1) := by decide +kernel
theorem dX4_isAtOrBeyond_32 : decode cX4_isAtOrBeyond 32 = .ok (.if_icmp .ne 7, 3) := by decide +kernel
theorem dX4_isAtOrBeyond_35 : decode cX4_isAtOrBeyond 35 = .ok (.iconst 1, 1) := by decide +kernel
theorem dX4_isAtOrBeyond_36 : decode cX4_isAtOrBeyond 36 = .ok (.goto 4, 3) := by decide +kernel
theorem dX4_isAtOrBeyond_39 : decode cX4_isAtOrBeyond 39 = .ok (.iconst 0, 1) := by decide +kernel
theorem dX4_isAtOrBeyond_40 : decode cX4_isAtOrBeyond 40 = .ok (.ireturn, 1) := by decide +kernel
theorem dX4_effortOfStreet_0 : decode cX4_effortOfStreet 0 = .ok (.iload_n 3, 1) := by decide +kernel
theorem dX4_effortOfStreet_1 : decode cX4_effortOfStreet 1 = .ok (.iconst 1, 1) := by decide +kernel
theorem dX4_effortOfStreet_2 : decode cX4_effortOfStreet 2 = .ok (.if_icmp .ne 8, 3) := by decide +kernel
theorem dX4_effortOfStreet_5 : decode cX4_effortOfStreet 5 = .ok (.bipush 20, 2) := by decide +kernel
theorem dX4_effortOfStreet_7 : decode cX4_effortOfStreet 7 = .ok (.goto 5, 3) := by decide +kernel
theorem dX4_effortOfStreet_10 : decode cX4_effortOfStreet 10 = .ok (.bipush 10, 2) := by decide +kernel
theorem dX4_effortOfStreet_12 : decode cX4_effortOfStreet 12 = .ok (.istore 4, 2) := by decide +kernel
theorem dX4_effortOfStreet_14 : decode cX4_effortOfStreet 14 = .ok (.aload_n 0, 1) := by decide +kernel
theorem dX4_effortOfStreet_15 : decode cX4_effortOfStreet 15 = .ok (.getfield 22, 3) := by decide +kernel
theorem dX4_effortOfStreet_18 : decode cX4_effortOfStreet 18 = .ok (.iload_n 1, 1) := by decide +kernel
theorem dX4_effortOfStreet_19 : decode cX4_effortOfStreet 19 = .ok (.iaload, 1) := by decide +kernel
theorem dX4_effortOfStreet_20 : decode cX4_effortOfStreet 20 = .ok (.aload_n 0, 1) := by decide +kernel
theorem dX4_effortOfStreet_21 : decode cX4_effortOfStreet 21 = .ok (.getfield 22, 3) := by decide +kernel
theorem dX4_effortOfStreet_24 : decode cX4_effortOfStreet 24 = .ok (.aload_n 0, 1) := by decide +kernel
theorem dX4_effortOfStreet_25 : decode cX4_effortOfStreet 25 = .ok (.getfield 15, 3) := by decide +kernel
theorem dX4_effortOfStreet_28 : decode cX4_effortOfStreet 28 = .ok (.iload_n 1, 1) := by decide +kernel
theorem dX4_effortOfStreet_29 : decode cX4_effortOfStreet 29 = .ok (.iaload, 1) := by decide +kernel
theorem dX4_effortOfStreet_30 : decode cX4_effortOfStreet 30 = .ok (.iaload, 1) := by decide +kernel
theorem dX4_effortOfStreet_31 : decode cX4_effortOfStreet 31 = .ok (.isub, 1) := by decide +kernel
theorem dX4_effortOfStreet_32 : decode cX4_effortOfStreet 32 = .ok (.istore 5, 2) := by decide +kernel
theorem dX4_effortOfStreet_34 : decode cX4_effortOfStreet 34 = .ok (.iload 5, 2) := by decide +kernel
theorem dX4_effortOfStreet_36 : decode cX4_effortOfStreet 36 = .ok (.ifCond .le 16, 3) := by decide +kernel
theorem dX4_effortOfStreet_39 : decode cX4_effortOfStreet 39 = .ok (.iload 5, 2) := by decide +kernel
theorem dX4_effortOfStreet_41 : decode cX4_effortOfStreet 41 = .ok (.iload 4, 2) := by decide +kernel
theorem dX4_effortOfStreet_43 : decode cX4_effortOfStreet 43 = .ok (.iload_n 2, 1) := by decide +kernel
theorem dX4_effortOfStreet_44 : decode cX4_effortOfStreet 44 = .ok (.iadd, 1) := by decide +kernel
theorem dX4_effortOfStreet_45 : decode cX4_effortOfStreet 45 = .ok (.imul, 1) := by decide +kernel
theorem dX4_effortOfStreet_46 : decode cX4_effortOfStreet 46 = .ok (.iload 4, 2) := by decide +kernel
theorem dX4_effortOfStreet_48 : decode cX4_effortOfStreet 48 = .ok (.idiv, 1) := by decide +kernel
theorem dX4_effortOfStreet_49 : decode cX4_effortOfStreet 49 = .ok (.goto 6, 3) := by decide +kernel
theorem dX4_effortOfStreet_52 : decode cX4_effortOfStreet 52 = .ok (.iload 5, 2) := by decide +kernel
theorem dX4_effortOfStreet_54 : decode cX4_effortOfStreet 54 = .ok (.ineg, 1) := by decide +kernel
theorem dX4_effortOfStreet_55 : decode cX4_effortOfStreet 55 = .ok (.istore 6, 2) := by decide +kernel
theorem dX4_effortOfStreet_57 : decode cX4_effortOfStreet 57 = .ok (.iconst 2, 1) := by decide +kernel
theorem dX4_effortOfStreet_58 : decode cX4_effortOfStreet 58 = .ok (.aload_n 0, 1) := by decide +kernel
theorem dX4_effortOfStreet_59 : decode cX4_effortOfStreet 59 = .ok (.getfield 19, 3) := by decide +kernel
theorem dX4_effortOfStreet_62 : decode cX4_effortOfStreet 62 = .ok (.iload_n 1, 1) := by decide +kernel
theorem dX4_effortOfStreet_63 : decode cX4_effortOfStreet 63 = .ok (.iaload, 1) := by decide +kernel
theorem dX4_effortOfStreet_64 : decode cX4_effortOfStreet 64 = .ok (.imul, 1) := by decide +kernel
theorem dX4_effortOfStreet_65 : decode cX4_effortOfStreet 65 = .ok (.iload 6, 2) := by decide +kernel
theorem dX4_effortOfStreet_67 : decode cX4_effortOfStreet 67 = .ok (.iadd, 1) := by decide +kernel
theorem dX4_effortOfStreet_68 : decode cX4_effortOfStreet 68 = .ok (.ireturn, 1) := by decide +kernel
theorem dX5_init_0 : decode cX5_init 0 = .ok (.aload_n 0, 1) := by decide +kernel
theorem dX5_init_1 : decode cX5_init 1 = .ok (.invokespecial 3, 3) := by decide +kernel
theorem dX5_init_4 : decode cX5_init 4 = .ok (.aload_n 0, 1) := by decide +kernel
theorem dX5_init_5 : decode cX5_init 5 = .ok (.iconst 0, 1) := by decide +kernel
theorem dX5_init_6 : decode cX5_init 6 = .ok (.putfield 9, 3) := by decide +kernel
theorem dX5_init_9 : decode cX5_init 9 = .ok (.aload_n 0, 1) := by decide +kernel
theorem dX5_init_10 : decode cX5_init 10 = .ok (.bipush 60, 2) := by decide +kernel
theorem dX5_init_12 : decode cX5_init 12 = .ok (.newarray .char, 2) := by decide +kernel
theorem dX5_init_14 : decode cX5_init 14 = .ok (.putfield 15, 3) := by decide +kernel
theorem dX5_init_17 : decode cX5_init 17 = .ok (.aload_n 0, 1) := by decide +kernel
theorem dX5_init_18 : decode cX5_init 18 = .ok (.bipush 32, 2) := by decide +kernel
theorem dX5_init_20 : decode cX5_init 20 = .ok (.putfield 19, 3) := by decide +kernel
theorem dX5_init_23 : decode cX5_init 23 = .ok (.aload_n 0, 1) := by decide +kernel
theorem dX5_init_24 : decode cX5_init 24 = .ok (.iconst 0, 1) := by decide +kernel
theorem dX5_init_25 : decode cX5_init 25 = .ok (.putfield 23, 3) := by decide +kernel
theorem dX5_init_28 : decode cX5_init 28 = .ok (.aload_n 0, 1) := by decide +kernel
theorem dX5_init_29 : decode cX5_init 29 = .ok (.iconst 3, 1) := by decide +kernel
theorem dX5_init_30 : decode cX5_init 30 = .ok (.newarray .int, 2) := by decide +kernel
theorem dX5_init_32 : decode cX5_init 32 = .ok (.putfield 26, 3) := by decide +kernel
theorem dX5_init_35 : decode cX5_init 35 = .ok (.return_, 1) := by decide +kernel
theorem dX5_append_0 : decode cX5_append 0 = .ok (.aload_n 0, 1) := by decide +kernel
theorem dX5_append_1 : decode cX5_append 1 = .ok (.getfield 9, 3) := by decide +kernel
theorem dX5_append_4 : decode cX5_append 4 = .ok (.bipush 60, 2) := by decide +kernel
theorem dX5_append_6 : decode cX5_append 6 = .ok (.if_icmp .lt 6, 3) := by decide +kernel
theorem dX5_append_9 : decode cX5_append 9 = .ok (.bipush (-3), 2) := by decide +kernel
theorem dX5_append_11 : decode cX5_append 11 = .ok (.ireturn, 1) := by decide +kernel
theorem dX5_append_12 : decode cX5_append 12 = .ok (.aload_n 0, 1) := by decide +kernel
theorem dX5_append_13 : decode cX5_append 13 = .ok (.getfield 15, 3) := by decide +kernel
theorem dX5_append_16 : decode cX5_append 16 = .ok (.aload_n 0, 1) := by decide +kernel
theorem dX5_append_17 : decode cX5_append 17 = .ok (.getfield 9, 3) := by decide +kernel
theorem dX5_append_20 : decode cX5_append 20 = .ok (.iload_n 1, 1) := by decide +kernel
theorem dX5_append_21 : decode cX5_append 21 = .ok (.castore, 1) := by decide +kernel
theorem dX5_append_22 : decode cX5_append 22 = .ok (.aload_n 0, 1) := by decide +kernel
theorem dX5_append_23 : decode cX5_append 23 = .ok (.dup, 1) := by decide +kernel
theorem dX5_append_24 : decode cX5_append 24 = .ok (.getfield 9, 3) := by decide +kernel
theorem dX5_append_27 : decode cX5_append 27 = .ok (.iconst 1, 1) := by decide +kernel
theorem dX5_append_28 : decode cX5_append 28 = .ok (.iadd, 1) := by decide +kernel
theorem dX5_append_29 : decode cX5_append 29 = .ok (.putfield 9, 3) := by decide +kernel
theorem dX5_append_32 : decode cX5_append 32 = .ok (.aload_n 0, 1) := by decide +kernel
theorem dX5_append_33 : decode cX5_append 33 = .ok (.getfield 9, 3) := by decide +kernel
theorem dX5_append_36 : decode cX5_append 36 = .ok (.ireturn, 1) := by decide +kernel
theorem dX5_readOrder_0 : decode cX5_readOrder 0 = .ok (.iload_n 1, 1) := by decide +kernel
theorem dX5_readOrder_1 : decode cX5_readOrder 1 = .ok (.iconst 0, 1) := by decide +kernel
theorem dX5_readOrder_2 : decode cX5_readOrder 2 = .ok (.aload_n 0, 1) := by decide +kernel
theorem dX5_readOrder_3 : decode cX5_readOrder 3 = .ok (.getfield 9, 3) := by decide +kernel
theorem dX5_readOrder_6 : decode cX5_readOrder 6 = .ok (.iconst 1, 1) := by decide +kernel
theorem dX5_readOrder_7 : decode cX5_readOrder 7 = .ok (.isub, 1) := by decide +kernel
theorem dX5_readOrder_8 : decode cX5_readOrder 8 = .ok (.invokestatic 30, 3) := by decide +kernel
theorem dX5_readOrder_11 : decode cX5_readOrder 11 = .ok (.ifCond .ne 5, 3) := by decide +kernel
theorem dX5_readOrder_14 : decode cX5_readOrder 14 = .ok (.iconst 0, 1) := by decide +kernel
theorem dX5_readOrder_15 : decode cX5_readOrder 15 = .ok (.ireturn, 1) := by decide +kernel
theorem dX5_readOrder_16 : decode cX5_readOrder 16 = .ok (.aload_n 0, 1) := by decide +kernel
theorem dX5_readOrder_17 : decode cX5_readOrder 17 = .ok (.aload_n 0, 1) := by decide +kernel
theorem dX5_readOrder_18 : decode cX5_readOrder 18 = .ok (.getfield 15, 3) := by decide +kernel
theorem dX5_readOrder_21 : decode cX5_readOrder 21 = .ok (.iload_n 1, 1) := by decide +kernel
theorem dX5_readOrder_22 : decode cX5_readOrder 22 = .ok (.caload, 1) := by decide +kernel
theorem dX5_readOrder_23 : decode cX5_readOrder 23 = .ok (.putfield 19, 3) := by decide +kernel
theorem dX5_readOrder_26 : decode cX5_readOrder 26 = .ok (.aload_n 0, 1) := by decide +kernel
theorem dX5_readOrder_27 : decode cX5_readOrder 27 = .ok (.iload_n 1, 1) := by decide +kernel
theorem dX5_readOrder_28 : decode cX5_readOrder 28 = .ok (.iconst 1, 1) := by decide +kernel
theorem dX5_readOrder_29 : decode cX5_readOrder 29 = .ok (.iadd, 1) := by decide +kernel
theorem dX5_readOrder_30 : decode cX5_readOrder 30 = .ok (.putfield 23, 3) := by decide +kernel
theorem dX5_readOrder_33 : decode cX5_readOrder 33 = .ok (.aload_n 0, 1) := by decide +kernel
theorem dX5_readOrder_34 : decode cX5_readOrder 34 = .ok (.getfield 19, 3) := by decide +kernel
theorem dX5_readOrder_37 : decode cX5_readOrder 37 = .ok (.invokestatic 34, 3) := by decide +kernel
theorem dX5_readOrder_40 : decode cX5_readOrder 40 = .ok (.istore_n 2, 1) := by decide +kernel
theorem dX5_readOrder_41 : decode cX5_readOrder 41 = .ok (.iconst 0, 1) := by decide +kernel
theorem dX5_readOrder_42 : decode cX5_readOrder 42 = .ok (.istore_n 3, 1) := by decide +kernel
theorem dX5_readOrder_43 : decode cX5_readOrder 43 = .ok (.iload_n 3, 1) := by decide +kernel
theorem dX5_readOrder_44 : decode cX5_readOrder 44 = .ok (.iload_n 2, 1) := by decide +kernel
theorem dX5_readOrder_45 : decode cX5_readOrder 45 = .ok (.if_icmp .ge 52, 3) := by decide +kernel
theorem dX5_readOrder_48 : decode cX5_readOrder 48 = .ok (.aload_n 0, 1) := by decide +kernel
theorem dX5_readOrder_49 : decode cX5_readOrder 49 = .ok (.invokevirtual 38, 3) := by decide +kernel
theorem dX5_readOrder_52 : decode cX5_readOrder 52 = .ok (.istore 4, 2) := by decide +kernel
theorem dX5_readOrder_54 : decode cX5_readOrder 54 = .ok (.iload 4, 2) := by decide +kernel
theorem dX5_readOrder_56 : decode cX5_readOrder 56 = .ok (.iconst (-1), 1) := by decide +kernel
theorem dX5_readOrder_57 : decode cX5_readOrder 57 = .ok (.if_icmp .eq 24, 3) := by decide +kernel
theorem dX5_readOrder_60 : decode cX5_readOrder 60 = .ok (.aload_n 0, 1) := by decide +kernel
theorem dX5_readOrder_61 : decode cX5_readOrder 61 = .ok (.iload_n 3, 1) := by decide +kernel
theorem dX5_readOrder_62 : decode cX5_readOrder 62 = .ok (.iload_n 2, 1) := by decide +kernel
theorem dX5_readOrder_63 : decode cX5_readOrder 63 = .ok (.iconst 1, 1) := by decide +kernel
theorem dX5_readOrder_64 : decode cX5_readOrder 64 = .ok (.isub, 1) := by decide +kernel
theorem dX5_readOrder_65 : decode cX5_readOrder 65 = .ok (.if_icmp .ne 8, 3) := by decide +kernel
theorem dX5_readOrder_68 : decode cX5_readOrder 68 = .ok (.bipush 59, 2) := by decide +kernel
theorem dX5_readOrder_70 : decode cX5_readOrder 70 = .ok (.goto 5, 3) := by decide +kernel
theorem dX5_readOrder_73 : decode cX5_readOrder 73 = .ok (.bipush 44, 2) := by decide +kernel
theorem dX5_readOrder_75 : decode cX5_readOrder 75 = .ok (.invokevirtual 42, 3) := by decide +kernel
theorem dX5_readOrder_78 : decode cX5_readOrder 78 = .ok (.ifCond .ne 5, 3) := by decide +kernel
theorem dX5_readOrder_81 : decode cX5_readOrder 81 = .ok (.iconst 0, 1) := by decide +kernel
theorem dX5_readOrder_82 : decode cX5_readOrder 82 = .ok (.ireturn, 1) := by decide +kernel
theorem dX5_readOrder_83 : decode cX5_readOrder 83 = .ok (.aload_n 0, 1) := by decide +kernel
theorem dX5_readOrder_84 : decode cX5_readOrder 84 = .ok (.getfield 26, 3) := by decide +kernel
theorem dX5_readOrder_87 : decode cX5_readOrder 87 = .ok (.iload_n 3, 1) := by decide +kernel
theorem dX5_readOrder_88 : decode cX5_readOrder 88 = .ok (.iload 4, 2) := by decide +kernel
theorem dX5_readOrder_90 : decode cX5_readOrder 90 = .ok (.iastore, 1) := by decide +kernel
theorem dX5_readOrder_91 : decode cX5_readOrder 91 = .ok (.iinc 3 1, 3) := by decide +kernel
theorem dX5_readOrder_94 : decode cX5_readOrder 94 = .ok (.goto (-51), 3) := by decide +kernel
theorem dX5_readOrder_97 : decode cX5_readOrder 97 = .ok (.iload_n 2, 1) := by decide +kernel
theorem dX5_readOrder_98 : decode cX5_readOrder 98 = .ok (.ifCond .le 7, 3) := by decide +kernel
theorem dX5_readOrder_101 : decode cX5_readOrder 101 = .ok (.iconst 1, 1) := by decide +kernel
theorem dX5_readOrder_102 : decode cX5_readOrder 102 = .ok (.goto 4, 3) := by decide +kernel
theorem dX5_readOrder_105 : decode cX5_readOrder 105 = .ok (.iconst 0, 1) := by decide +kernel
theorem dX5_readOrder_106 : decode cX5_readOrder 106 = .ok (.ireturn, 1) := by decide +kernel
theorem dX5_numbersOf_0 : decode cX5_numbersOf 0 = .ok (.iload_n 0, 1) := by decide +kernel
theorem dX5_numbersOf_1 : decode cX5_numbersOf 1 = .ok (.tableswitch 85 98 112 #[79, 85, 83, 85, 85, 77, 85, 85, 85, 85, 85, 85, 81, 85, 75], 75) := by decide +kernel
theorem dX5_numbersOf_76 : decode cX5_numbersOf 76 = .ok (.iconst 3, 1) := by decide +kernel
theorem dX5_numbersOf_77 : decode cX5_numbersOf 77 = .ok (.ireturn, 1) := by decide +kernel
theorem dX5_numbersOf_78 : decode cX5_numbersOf 78 = .ok (.iconst 2, 1) := by decide +kernel
theorem dX5_numbersOf_79 : decode cX5_numbersOf 79 = .ok (.ireturn, 1) := by decide +kernel
theorem dX5_numbersOf_80 : decode cX5_numbersOf 80 = .ok (.iconst 2, 1) := by decide +kernel
theorem dX5_numbersOf_81 : decode cX5_numbersOf 81 = .ok (.ireturn, 1) := by decide +kernel
theorem dX5_numbersOf_82 : decode cX5_numbersOf 82 = .ok (.iconst 1, 1) := by decide +kernel
theorem dX5_numbersOf_83 : decode cX5_numbersOf 83 = .ok (.ireturn, 1) := by decide +kernel
theorem dX5_numbersOf_84 : decode cX5_numbersOf 84 = .ok (.iconst 1, 1) := by decide +kernel
theorem dX5_numbersOf_85 : decode cX5_numbersOf 85 = .ok (.ireturn, 1) := by decide +kernel
theorem dX5_numbersOf_86 : decode cX5_numbersOf 86 = .ok (.iconst 0, 1) := by decide +kernel
theorem dX5_numbersOf_87 : decode cX5_numbersOf 87 = .ok (.ireturn, 1) := by decide +kernel
theorem dX5_readNumber_0 : decode cX5_readNumber 0 = .ok (.iconst 0, 1) := by decide +kernel
theorem dX5_readNumber_1 : decode cX5_readNumber 1 = .ok (.istore_n 1, 1) := by decide +kernel
theorem dX5_readNumber_2 : decode cX5_readNumber 2 = .ok (.iconst 0, 1) := by decide +kernel
theorem dX5_readNumber_3 : decode cX5_readNumber 3 = .ok (.istore_n 2, 1) := by decide +kernel
theorem dX5_readNumber_4 : decode cX5_readNumber 4 = .ok (.iload_n 2, 1) := by decide +kernel
theorem dX5_readNumber_5 : decode cX5_readNumber 5 = .ok (.iconst 3, 1) := by decide +kernel
theorem dX5_readNumber_6 : decode cX5_readNumber 6 = .ok (.if_icmp .ge 67, 3) := by decide +kernel
theorem dX5_readNumber_9 : decode cX5_readNumber 9 = .ok (.aload_n 0, 1) := by decide +kernel
theorem dX5_readNumber_10 : decode cX5_readNumber 10 = .ok (.getfield 23, 3) := by decide +kernel
theorem dX5_readNumber_13 : decode cX5_readNumber 13 = .ok (.aload_n 0, 1) := by decide +kernel
theorem dX5_readNumber_14 : decode cX5_readNumber 14 = .ok (.getfield 9, 3) := by decide +kernel
theorem dX5_readNumber_17 : decode cX5_readNumber 17 = .ok (.if_icmp .ge 56, 3) := by decide +kernel
theorem dX5_readNumber_20 : decode cX5_readNumber 20 = .ok (.aload_n 0, 1) := by decide +kernel
theorem dX5_readNumber_21 : decode cX5_readNumber 21 = .ok (.getfield 15, 3) := by decide +kernel
theorem dX5_readNumber_24 : decode cX5_readNumber 24 = .ok (.aload_n 0, 1) := by decide +kernel
theorem dX5_readNumber_25 : decode cX5_readNumber 25 = .ok (.getfield 23, 3) := by decide +kernel
theorem dX5_readNumber_28 : decode cX5_readNumber 28 = .ok (.caload, 1) := by decide +kernel
theorem dX5_readNumber_29 : decode cX5_readNumber 29 = .ok (.bipush 48, 2) := by decide +kernel
theorem dX5_readNumber_31 : decode cX5_readNumber 31 = .ok (.bipush 57, 2) := by decide +kernel
theorem dX5_readNumber_33 : decode cX5_readNumber 33 = .ok (.invokestatic 30, 3) := by decide +kernel
theorem dX5_readNumber_36 : decode cX5_readNumber 36 = .ok (.ifCond .eq 37, 3) := by decide +kernel
theorem dX5_readNumber_39 : decode cX5_readNumber 39 = .ok (.iload_n 1, 1) := by decide +kernel
theorem dX5_readNumber_40 : decode cX5_readNumber 40 = .ok (.bipush 10, 2) := by decide +kernel
theorem dX5_readNumber_42 : decode cX5_readNumber 42 = .ok (.imul, 1) := by decide +kernel
theorem dX5_readNumber_43 : decode cX5_readNumber 43 = .ok (.aload_n 0, 1) := by decide +kernel
theorem dX5_readNumber_44 : decode cX5_readNumber 44 = .ok (.getfield 15, 3) := by decide +kernel
theorem dX5_readNumber_47 : decode cX5_readNumber 47 = .ok (.aload_n 0, 1) := by decide +kernel
theorem dX5_readNumber_48 : decode cX5_readNumber 48 = .ok (.getfield 23, 3) := by decide +kernel
theorem dX5_readNumber_51 : decode cX5_readNumber 51 = .ok (.caload, 1) := by decide +kernel
theorem dX5_readNumber_52 : decode cX5_readNumber 52 = .ok (.bipush 48, 2) := by decide +kernel
theorem dX5_readNumber_54 : decode cX5_readNumber 54 = .ok (.isub, 1) := by decide +kernel
theorem dX5_readNumber_55 : decode cX5_readNumber 55 = .ok (.iadd, 1) := by decide +kernel
theorem dX5_readNumber_56 : decode cX5_readNumber 56 = .ok (.istore_n 1, 1) := by decide +kernel
theorem dX5_readNumber_57 : decode cX5_readNumber 57 = .ok (.iinc 2 1, 3) := by decide +kernel
theorem dX5_readNumber_60 : decode cX5_readNumber 60 = .ok (.aload_n 0, 1) := by decide +kernel
theorem dX5_readNumber_61 : decode cX5_readNumber 61 = .ok (.dup, 1) := by decide +kernel
theorem dX5_readNumber_62 : decode cX5_readNumber 62 = .ok (.getfield 23, 3) := by decide +kernel
theorem dX5_readNumber_65 : decode cX5_readNumber 65 = .ok (.iconst 1, 1) := by decide +kernel
theorem dX5_readNumber_66 : decode cX5_readNumber 66 = .ok (.iadd, 1) := by decide +kernel
theorem dX5_readNumber_67 : decode cX5_readNumber 67 = .ok (.putfield 23, 3) := by decide +kernel
theorem dX5_readNumber_70 : decode cX5_readNumber 70 = .ok (.goto (-66), 3) := by decide +kernel
theorem dX5_readNumber_73 : decode cX5_readNumber 73 = .ok (.iload_n 2, 1) := by decide +kernel
theorem dX5_readNumber_74 : decode cX5_readNumber 74 = .ok (.ifCond .ne 7, 3) := by decide +kernel
theorem dX5_readNumber_77 : decode cX5_readNumber 77 = .ok (.iconst (-1), 1) := by decide +kernel
theorem dX5_readNumber_78 : decode cX5_readNumber 78 = .ok (.goto 4, 3) := by decide +kernel
theorem dX5_readNumber_81 : decode cX5_readNumber 81 = .ok (.iload_n 1, 1) := by decide +kernel
theorem dX5_readNumber_82 : decode cX5_readNumber 82 = .ok (.ireturn, 1) := by decide +kernel
theorem dX5_readSign_0 : decode cX5_readSign 0 = .ok (.aload_n 0, 1) := by decide +kernel
theorem dX5_readSign_1 : decode cX5_readSign 1 = .ok (.getfield 23, 3) := by decide +kernel
theorem dX5_readSign_4 : decode cX5_readSign 4 = .ok (.aload_n 0, 1) := by decide +kernel
theorem dX5_readSign_5 : decode cX5_readSign 5 = .ok (.getfield 9, 3) := by decide +kernel
theorem dX5_readSign_8 : decode cX5_readSign 8 = .ok (.if_icmp .ge 16, 3) := by decide +kernel
theorem dX5_readSign_11 : decode cX5_readSign 11 = .ok (.aload_n 0, 1) := by decide +kernel
theorem dX5_readSign_12 : decode cX5_readSign 12 = .ok (.getfield 15, 3) := by decide +kernel
theorem dX5_readSign_15 : decode cX5_readSign 15 = .ok (.aload_n 0, 1) := by decide +kernel
theorem dX5_readSign_16 : decode cX5_readSign 16 = .ok (.getfield 23, 3) := by decide +kernel
theorem dX5_readSign_19 : decode cX5_readSign 19 = .ok (.caload, 1) := by decide +kernel
theorem dX5_readSign_20 : decode cX5_readSign 20 = .ok (.iload_n 1, 1) := by decide +kernel
theorem dX5_readSign_21 : decode cX5_readSign 21 = .ok (.if_icmp .eq 5, 3) := by decide +kernel
theorem dX5_readSign_24 : decode cX5_readSign 24 = .ok (.iconst 0, 1) := by decide +kernel
theorem dX5_readSign_25 : decode cX5_readSign 25 = .ok (.ireturn, 1) := by decide +kernel
theorem dX5_readSign_26 : decode cX5_readSign 26 = .ok (.aload_n 0, 1) := by decide +kernel
theorem dX5_readSign_27 : decode cX5_readSign 27 = .ok (.dup, 1) := by decide +kernel
theorem dX5_readSign_28 : decode cX5_readSign 28 = .ok (.getfield 23, 3) := by decide +kernel
theorem dX5_readSign_31 : decode cX5_readSign 31 = .ok (.iconst 1, 1) := by decide +kernel
theorem dX5_readSign_32 : decode cX5_readSign 32 = .ok (.iadd, 1) := by decide +kernel
theorem dX5_readSign_33 : decode cX5_readSign 33 = .ok (.putfield 23, 3) := by decide +kernel
theorem dX5_readSign_36 : decode cX5_readSign 36 = .ok (.iconst 1, 1) := by decide +kernel
theorem dX5_readSign_37 : decode cX5_readSign 37 = .ok (.ireturn, 1) := by decide +kernel
theorem dX6_init_0 : decode cX6_init 0 = .ok (.aload_n 0, 1) := by decide +kernel
theorem dX6_init_1 : decode cX6_init 1 = .ok (.invokespecial 3, 3) := by decide +kernel
theorem dX6_init_4 : decode cX6_init 4 = .ok (.aload_n 0, 1) := by decide +kernel
theorem dX6_init_5 : decode cX6_init 5 = .ok (.iconst 0, 1) := by decide +kernel
theorem dX6_init_6 : decode cX6_init 6 = .ok (.putfield 9, 3) := by decide +kernel
theorem dX6_init_9 : decode cX6_init 9 = .ok (.aload_n 0, 1) := by decide +kernel
theorem dX6_init_10 : decode cX6_init 10 = .ok (.iconst 3, 1) := by decide +kernel
theorem dX6_init_11 : decode cX6_init 11 = .ok (.putfield 15, 3) := by decide +kernel
theorem dX6_init_14 : decode cX6_init 14 = .ok (.aload_n 0, 1) := by decide +kernel
theorem dX6_init_15 : decode cX6_init 15 = .ok (.bipush 8, 2) := by decide +kernel
theorem dX6_init_17 : decode cX6_init 17 = .ok (.putfield 18, 3) := by decide +kernel
theorem dX6_init_20 : decode cX6_init 20 = .ok (.aload_n 0, 1) := by decide +kernel
theorem dX6_init_21 : decode cX6_init 21 = .ok (.bipush 6, 2) := by decide +kernel
theorem dX6_init_23 : decode cX6_init 23 = .ok (.newarray .int, 2) := by decide +kernel
theorem dX6_init_25 : decode cX6_init 25 = .ok (.putfield 21, 3) := by decide +kernel
theorem dX6_init_28 : decode cX6_init 28 = .ok (.aload_n 0, 1) := by decide +kernel
theorem dX6_init_29 : decode cX6_init 29 = .ok (.new 25, 3) := by decide +kernel
theorem dX6_init_32 : decode cX6_init 32 = .ok (.dup, 1) := by decide +kernel
theorem dX6_init_33 : decode cX6_init 33 = .ok (.invokespecial 27, 3) := by decide +kernel
theorem dX6_init_36 : decode cX6_init 36 = .ok (.putfield 28, 3) := by decide +kernel
theorem dX6_init_39 : decode cX6_init 39 = .ok (.aload_n 0, 1) := by decide +kernel
theorem dX6_init_40 : decode cX6_init 40 = .ok (.new 32, 3) := by decide +kernel
theorem dX6_init_43 : decode cX6_init 43 = .ok (.dup, 1) := by decide +kernel
theorem dX6_init_44 : decode cX6_init 44 = .ok (.invokespecial 34, 3) := by decide +kernel
theorem dX6_init_47 : decode cX6_init 47 = .ok (.putfield 35, 3) := by decide +kernel
theorem dX6_init_50 : decode cX6_init 50 = .ok (.aload_n 0, 1) := by decide +kernel
theorem dX6_init_51 : decode cX6_init 51 = .ok (.new 39, 3) := by decide +kernel
theorem dX6_init_54 : decode cX6_init 54 = .ok (.dup, 1) := by decide +kernel
theorem dX6_init_55 : decode cX6_init 55 = .ok (.invokespecial 41, 3) := by decide +kernel
theorem dX6_init_58 : decode cX6_init 58 = .ok (.putfield 42, 3) := by decide +kernel
theorem dX6_init_61 : decode cX6_init 61 = .ok (.aload_n 0, 1) := by decide +kernel
theorem dX6_init_62 : decode cX6_init 62 = .ok (.new 46, 3) := by decide +kernel
theorem dX6_init_65 : decode cX6_init 65 = .ok (.dup, 1) := by decide +kernel
theorem dX6_init_66 : decode cX6_init 66 = .ok (.invokespecial 48, 3) := by decide +kernel
theorem dX6_init_69 : decode cX6_init 69 = .ok (.putfield 49, 3) := by decide +kernel
theorem dX6_init_72 : decode cX6_init 72 = .ok (.return_, 1) := by decide +kernel
theorem dX6_copyFrom_0 : decode cX6_copyFrom 0 = .ok (.aload_n 0, 1) := by decide +kernel
theorem dX6_copyFrom_1 : decode cX6_copyFrom 1 = .ok (.aload_n 1, 1) := by decide +kernel
theorem dX6_copyFrom_2 : decode cX6_copyFrom 2 = .ok (.getfield 9, 3) := by decide +kernel
theorem dX6_copyFrom_5 : decode cX6_copyFrom 5 = .ok (.putfield 9, 3) := by decide +kernel
theorem dX6_copyFrom_8 : decode cX6_copyFrom 8 = .ok (.aload_n 0, 1) := by decide +kernel
theorem dX6_copyFrom_9 : decode cX6_copyFrom 9 = .ok (.aload_n 1, 1) := by decide +kernel
theorem dX6_copyFrom_10 : decode cX6_copyFrom 10 = .ok (.getfield 15, 3) := by decide +kernel
theorem dX6_copyFrom_13 : decode cX6_copyFrom 13 = .ok (.putfield 15, 3) := by decide +kernel
theorem dX6_copyFrom_16 : decode cX6_copyFrom 16 = .ok (.aload_n 0, 1) := by decide +kernel
theorem dX6_copyFrom_17 : decode cX6_copyFrom 17 = .ok (.aload_n 1, 1) := by decide +kernel
theorem dX6_copyFrom_18 : decode cX6_copyFrom 18 = .ok (.getfield 18, 3) := by decide +kernel
theorem dX6_copyFrom_21 : decode cX6_copyFrom 21 = .ok (.putfield 18, 3) := by decide +kernel
theorem dX6_copyFrom_24 : decode cX6_copyFrom 24 = .ok (.aload_n 1, 1) := by decide +kernel
theorem dX6_copyFrom_25 : decode cX6_copyFrom 25 = .ok (.getfield 21, 3) := by decide +kernel
theorem dX6_copyFrom_28 : decode cX6_copyFrom 28 = .ok (.aload_n 0, 1) := by decide +kernel
theorem dX6_copyFrom_29 : decode cX6_copyFrom 29 = .ok (.getfield 21, 3) := by decide +kernel
theorem dX6_copyFrom_32 : decode cX6_copyFrom 32 = .ok (.bipush 6, 2) := by decide +kernel
theorem dX6_copyFrom_34 : decode cX6_copyFrom 34 = .ok (.invokestatic 53, 3) := by decide +kernel
theorem dX6_copyFrom_37 : decode cX6_copyFrom 37 = .ok (.aload_n 0, 1) := by decide +kernel
theorem dX6_copyFrom_38 : decode cX6_copyFrom 38 = .ok (.getfield 28, 3) := by decide +kernel
theorem dX6_copyFrom_41 : decode cX6_copyFrom 41 = .ok (.aload_n 1, 1) := by decide +kernel
theorem dX6_copyFrom_42 : decode cX6_copyFrom 42 = .ok (.getfield 28, 3) := by decide +kernel
theorem dX6_copyFrom_45 : decode cX6_copyFrom 45 = .ok (.invokevirtual 57, 3) := by decide +kernel
theorem dX6_copyFrom_48 : decode cX6_copyFrom 48 = .ok (.aload_n 0, 1) := by decide +kernel
theorem dX6_copyFrom_49 : decode cX6_copyFrom 49 = .ok (.getfield 35, 3) := by decide +kernel
theorem dX6_copyFrom_52 : decode cX6_copyFrom 52 = .ok (.aload_n 1, 1) := by decide +kernel
theorem dX6_copyFrom_53 : decode cX6_copyFrom 53 = .ok (.getfield 35, 3) := by decide +kernel
theorem dX6_copyFrom_56 : decode cX6_copyFrom 56 = .ok (.invokevirtual 61, 3) := by decide +kernel
theorem dX6_copyFrom_59 : decode cX6_copyFrom 59 = .ok (.aload_n 0, 1) := by decide +kernel
theorem dX6_copyFrom_60 : decode cX6_copyFrom 60 = .ok (.getfield 42, 3) := by decide +kernel
theorem dX6_copyFrom_63 : decode cX6_copyFrom 63 = .ok (.aload_n 1, 1) := by decide +kernel
theorem dX6_copyFrom_64 : decode cX6_copyFrom 64 = .ok (.getfield 42, 3) := by decide +kernel
theorem dX6_copyFrom_67 : decode cX6_copyFrom 67 = .ok (.invokevirtual 64, 3) := by decide +kernel
theorem dX6_copyFrom_70 : decode cX6_copyFrom 70 = .ok (.aload_n 0, 1) := by decide +kernel
theorem dX6_copyFrom_71 : decode cX6_copyFrom 71 = .ok (.getfield 49, 3) := by decide +kernel
theorem dX6_copyFrom_74 : decode cX6_copyFrom 74 = .ok (.aload_n 1, 1) := by decide +kernel
theorem dX6_copyFrom_75 : decode cX6_copyFrom 75 = .ok (.getfield 49, 3) := by decide +kernel
theorem dX6_copyFrom_78 : decode cX6_copyFrom 78 = .ok (.invokevirtual 67, 3) := by decide +kernel
theorem dX6_copyFrom_81 : decode cX6_copyFrom 81 = .ok (.return_, 1) := by decide +kernel
theorem dX6_addCorner_0 : decode cX6_addCorner 0 = .ok (.aload_n 0, 1) := by decide +kernel
theorem dX6_addCorner_1 : decode cX6_addCorner 1 = .ok (.getfield 28, 3) := by decide +kernel
theorem dX6_addCorner_4 : decode cX6_addCorner 4 = .ok (.iload_n 1, 1) := by decide +kernel
theorem dX6_addCorner_5 : decode cX6_addCorner 5 = .ok (.invokevirtual 70, 3) := by decide +kernel
theorem dX6_addCorner_8 : decode cX6_addCorner 8 = .ok (.ifCond .eq 33, 3) := by decide +kernel
theorem dX6_addCorner_11 : decode cX6_addCorner 11 = .ok (.iload_n 2, 1) := by decide +kernel
theorem dX6_addCorner_12 : decode cX6_addCorner 12 = .ok (.iconst 1, 1) := by decide +kernel
theorem dX6_addCorner_13 : decode cX6_addCorner 13 = .ok (.bipush 50, 2) := by decide +kernel
theorem dX6_addCorner_15 : decode cX6_addCorner 15 = .ok (.invokestatic 74, 3) := by decide +kernel
theorem dX6_addCorner_18 : decode cX6_addCorner 18 = .ok (.ifCond .eq 23, 3) := by decide +kernel
theorem dX6_addCorner_21 : decode cX6_addCorner 21 = .ok (.iload_n 3, 1) := by decide +kernel
theorem dX6_addCorner_22 : decode cX6_addCorner 22 = .ok (.iconst 0, 1) := by decide +kernel
theorem dX6_addCorner_23 : decode cX6_addCorner 23 = .ok (.bipush 100, 2) := by decide +kernel
theorem dX6_addCorner_25 : decode cX6_addCorner 25 = .ok (.invokestatic 74, 3) := by decide +kernel
theorem dX6_addCorner_28 : decode cX6_addCorner 28 = .ok (.ifCond .eq 13, 3) := by decide +kernel
theorem dX6_addCorner_31 : decode cX6_addCorner 31 = .ok (.iload 4, 2) := by decide +kernel
theorem dX6_addCorner_33 : decode cX6_addCorner 33 = .ok (.iconst 0, 1) := by decide +kernel
theorem dX6_addCorner_34 : decode cX6_addCorner 34 = .ok (.iconst 1, 1) := by decide +kernel
theorem dX6_addCorner_35 : decode cX6_addCorner 35 = .ok (.invokestatic 74, 3) := by decide +kernel
theorem dX6_addCorner_38 : decode cX6_addCorner 38 = .ok (.ifCond .ne 5, 3) := by decide +kernel
theorem dX6_addCorner_41 : decode cX6_addCorner 41 = .ok (.iconst (-1), 1) := by decide +kernel
theorem dX6_addCorner_42 : decode cX6_addCorner 42 = .ok (.ireturn, 1) := by decide +kernel
theorem dX6_addCorner_43 : decode cX6_addCorner 43 = .ok (.aload_n 0, 1) := by decide +kernel
theorem dX6_addCorner_44 : decode cX6_addCorner 44 = .ok (.getfield 28, 3) := by decide +kernel
theorem dX6_addCorner_47 : decode cX6_addCorner 47 = .ok (.getfield 78, 3) := by decide +kernel
theorem dX6_addCorner_50 : decode cX6_addCorner 50 = .ok (.bipush 20, 2) := by decide +kernel
theorem dX6_addCorner_52 : decode cX6_addCorner 52 = .ok (.if_icmp .lt 8, 3) := by decide +kernel
theorem dX6_addCorner_55 : decode cX6_addCorner 55 = .ok (.bipush (-3), 2) := by decide +kernel
theorem dX6_addCorner_57 : decode cX6_addCorner 57 = .ok (.goto 15, 3) := by decide +kernel
theorem dX6_addCorner_60 : decode cX6_addCorner 60 = .ok (.aload_n 0, 1) := by decide +kernel
theorem dX6_addCorner_61 : decode cX6_addCorner 61 = .ok (.getfield 28, 3) := by decide +kernel
theorem dX6_addCorner_64 : decode cX6_addCorner 64 = .ok (.iload_n 1, 1) := by decide +kernel
theorem dX6_addCorner_65 : decode cX6_addCorner 65 = .ok (.iload_n 2, 1) := by decide +kernel
theorem dX6_addCorner_66 : decode cX6_addCorner 66 = .ok (.iload_n 3, 1) := by decide +kernel
theorem dX6_addCorner_67 : decode cX6_addCorner 67 = .ok (.iload 4, 2) := by decide +kernel
theorem dX6_addCorner_69 : decode cX6_addCorner 69 = .ok (.invokevirtual 81, 3) := by decide +kernel
theorem dX6_addCorner_72 : decode cX6_addCorner 72 = .ok (.ireturn, 1) := by decide +kernel
theorem dX6_addHouse_0 : decode cX6_addHouse 0 = .ok (.aload_n 0, 1) := by decide +kernel
theorem dX6_addHouse_1 : decode cX6_addHouse 1 = .ok (.getfield 28, 3) := by decide +kernel
theorem dX6_addHouse_4 : decode cX6_addHouse 4 = .ok (.iload_n 1, 1) := by decide +kernel
theorem dX6_addHouse_5 : decode cX6_addHouse 5 = .ok (.invokevirtual 70, 3) := by decide +kernel
theorem dX6_addHouse_8 : decode cX6_addHouse 8 = .ok (.ifCond .eq 23, 3) := by decide +kernel
theorem dX6_addHouse_11 : decode cX6_addHouse 11 = .ok (.iload_n 2, 1) := by decide +kernel
theorem dX6_addHouse_12 : decode cX6_addHouse 12 = .ok (.iconst 1, 1) := by decide +kernel
theorem dX6_addHouse_13 : decode cX6_addHouse 13 = .ok (.iconst 5, 1) := by decide +kernel
theorem dX6_addHouse_14 : decode cX6_addHouse 14 = .ok (.invokestatic 74, 3) := by decide +kernel
theorem dX6_addHouse_17 : decode cX6_addHouse 17 = .ok (.ifCond .eq 14, 3) := by decide +kernel
theorem dX6_addHouse_20 : decode cX6_addHouse 20 = .ok (.iload_n 3, 1) := by decide +kernel
theorem dX6_addHouse_21 : decode cX6_addHouse 21 = .ok (.iconst 0, 1) := by decide +kernel
theorem dX6_addHouse_22 : decode cX6_addHouse 22 = .ok (.sipush 500, 3) := by decide +kernel
theorem dX6_addHouse_25 : decode cX6_addHouse 25 = .ok (.invokestatic 74, 3) := by decide +kernel
theorem dX6_addHouse_28 : decode cX6_addHouse 28 = .ok (.ifCond .ne 5, 3) := by decide +kernel
theorem dX6_addHouse_31 : decode cX6_addHouse 31 = .ok (.iconst (-1), 1) := by decide +kernel
theorem dX6_addHouse_32 : decode cX6_addHouse 32 = .ok (.ireturn, 1) := by decide +kernel
theorem dX6_addHouse_33 : decode cX6_addHouse 33 = .ok (.aload_n 0, 1) := by decide +kernel
theorem dX6_addHouse_34 : decode cX6_addHouse 34 = .ok (.getfield 35, 3) := by decide +kernel
theorem dX6_addHouse_37 : decode cX6_addHouse 37 = .ok (.getfield 85, 3) := by decide +kernel
theorem dX6_addHouse_40 : decode cX6_addHouse 40 = .ok (.bipush 24, 2) := by decide +kernel
theorem dX6_addHouse_42 : decode cX6_addHouse 42 = .ok (.if_icmp .lt 8, 3) := by decide +kernel
theorem dX6_addHouse_45 : decode cX6_addHouse 45 = .ok (.bipush (-3), 2) := by decide +kernel
theorem dX6_addHouse_47 : decode cX6_addHouse 47 = .ok (.goto 17, 3) := by decide +kernel
theorem dX6_addHouse_50 : decode cX6_addHouse 50 = .ok (.aload_n 0, 1) := by decide +kernel
theorem dX6_addHouse_51 : decode cX6_addHouse 51 = .ok (.getfield 35, 3) := by decide +kernel
theorem dX6_addHouse_54 : decode cX6_addHouse 54 = .ok (.aload_n 0, 1) := by decide +kernel
theorem dX6_addHouse_55 : decode cX6_addHouse 55 = .ok (.getfield 28, 3) := by decide +kernel
theorem dX6_addHouse_58 : decode cX6_addHouse 58 = .ok (.iload_n 1, 1) := by decide +kernel
theorem dX6_addHouse_59 : decode cX6_addHouse 59 = .ok (.iload_n 2, 1) := by decide +kernel
theorem dX6_addHouse_60 : decode cX6_addHouse 60 = .ok (.iload_n 3, 1) := by decide +kernel
theorem dX6_addHouse_61 : decode cX6_addHouse 61 = .ok (.invokevirtual 86, 3) := by decide +kernel
theorem dX6_addHouse_64 : decode cX6_addHouse 64 = .ok (.ireturn, 1) := by decide +kernel
theorem dX6_changeDog_0 : decode cX6_changeDog 0 = .ok (.iload_n 2, 1) := by decide +kernel
theorem dX6_changeDog_1 : decode cX6_changeDog 1 = .ok (.ifCond .eq 13, 3) := by decide +kernel
theorem dX6_changeDog_4 : decode cX6_changeDog 4 = .ok (.iload_n 2, 1) := by decide +kernel
theorem dX6_changeDog_5 : decode cX6_changeDog 5 = .ok (.iconst 2, 1) := by decide +kernel
theorem dX6_changeDog_6 : decode cX6_changeDog 6 = .ok (.bipush 9, 2) := by decide +kernel
theorem dX6_changeDog_8 : decode cX6_changeDog 8 = .ok (.invokestatic 74, 3) := by decide +kernel
theorem dX6_changeDog_11 : decode cX6_changeDog 11 = .ok (.ifCond .eq 7, 3) := by decide +kernel
theorem dX6_changeDog_14 : decode cX6_changeDog 14 = .ok (.iconst 1, 1) := by decide +kernel
theorem dX6_changeDog_15 : decode cX6_changeDog 15 = .ok (.goto 4, 3) := by decide +kernel
theorem dX6_changeDog_18 : decode cX6_changeDog 18 = .ok (.iconst 0, 1) := by decide +kernel
theorem dX6_changeDog_19 : decode cX6_changeDog 19 = .ok (.istore 4, 2) := by decide +kernel
theorem dX6_changeDog_21 : decode cX6_changeDog 21 = .ok (.aload_n 0, 1) := by decide +kernel
theorem dX6_changeDog_22 : decode cX6_changeDog 22 = .ok (.getfield 35, 3) := by decide +kernel
theorem dX6_changeDog_25 : decode cX6_changeDog 25 = .ok (.iload_n 1, 1) := by decide +kernel
theorem dX6_changeDog_26 : decode cX6_changeDog 26 = .ok (.invokevirtual 89, 3) := by decide +kernel
theorem dX6_changeDog_29 : decode cX6_changeDog 29 = .ok (.ifCond .eq 18, 3) := by decide +kernel
theorem dX6_changeDog_32 : decode cX6_changeDog 32 = .ok (.iload 4, 2) := by decide +kernel
theorem dX6_changeDog_34 : decode cX6_changeDog 34 = .ok (.ifCond .eq 13, 3) := by decide +kernel
theorem dX6_changeDog_37 : decode cX6_changeDog 37 = .ok (.iload_n 3, 1) := by decide +kernel
theorem dX6_changeDog_38 : decode cX6_changeDog 38 = .ok (.iconst 0, 1) := by decide +kernel
theorem dX6_changeDog_39 : decode cX6_changeDog 39 = .ok (.bipush 8, 2) := by decide +kernel
theorem dX6_changeDog_41 : decode cX6_changeDog 41 = .ok (.invokestatic 74, 3) := by decide +kernel
theorem dX6_changeDog_44 : decode cX6_changeDog 44 = .ok (.ifCond .ne 5, 3) := by decide +kernel
theorem dX6_changeDog_47 : decode cX6_changeDog 47 = .ok (.iconst (-1), 1) := by decide +kernel
theorem dX6_changeDog_48 : decode cX6_changeDog 48 = .ok (.ireturn, 1) := by decide +kernel
theorem dX6_changeDog_49 : decode cX6_changeDog 49 = .ok (.aload_n 0, 1) := by decide +kernel
theorem dX6_changeDog_50 : decode cX6_changeDog 50 = .ok (.getfield 35, 3) := by decide +kernel
theorem dX6_changeDog_53 : decode cX6_changeDog 53 = .ok (.getfield 90, 3) := by decide +kernel
theorem dX6_changeDog_56 : decode cX6_changeDog 56 = .ok (.iload_n 1, 1) := by decide +kernel
theorem dX6_changeDog_57 : decode cX6_changeDog 57 = .ok (.iaload, 1) := by decide +kernel
theorem dX6_changeDog_58 : decode cX6_changeDog 58 = .ok (.istore 5, 2) := by decide +kernel
theorem dX6_changeDog_60 : decode cX6_changeDog 60 = .ok (.aload_n 0, 1) := by decide +kernel
theorem dX6_changeDog_61 : decode cX6_changeDog 61 = .ok (.getfield 35, 3) := by decide +kernel
theorem dX6_changeDog_64 : decode cX6_changeDog 64 = .ok (.getfield 90, 3) := by decide +kernel
theorem dX6_changeDog_67 : decode cX6_changeDog 67 = .ok (.iload_n 1, 1) := by decide +kernel
theorem dX6_changeDog_68 : decode cX6_changeDog 68 = .ok (.iload_n 2, 1) := by decide +kernel
theorem dX6_changeDog_69 : decode cX6_changeDog 69 = .ok (.iastore, 1) := by decide +kernel
theorem dX6_changeDog_70 : decode cX6_changeDog 70 = .ok (.aload_n 0, 1) := by decide +kernel
theorem dX6_changeDog_71 : decode cX6_changeDog 71 = .ok (.getfield 35, 3) := by decide +kernel
theorem dX6_changeDog_74 : decode cX6_changeDog 74 = .ok (.getfield 93, 3) := by decide +kernel
theorem dX6_changeDog_77 : decode cX6_changeDog 77 = .ok (.iload_n 1, 1) := by decide +kernel
theorem dX6_changeDog_78 : decode cX6_changeDog 78 = .ok (.iload_n 3, 1) := by decide +kernel
theorem dX6_changeDog_79 : decode cX6_changeDog 79 = .ok (.iastore, 1) := by decide +kernel
theorem dX6_changeDog_80 : decode cX6_changeDog 80 = .ok (.iload 5, 2) := by decide +kernel
theorem dX6_changeDog_82 : decode cX6_changeDog 82 = .ok (.ireturn, 1) := by decide +kernel
theorem dX6_addPause_0 : decode cX6_addPause 0 = .ok (.aload_n 0, 1) := by decide +kernel
theorem dX6_addPause_1 : decode cX6_addPause 1 = .ok (.getfield 35, 3) := by decide +kernel
theorem dX6_addPause_4 : decode cX6_addPause 4 = .ok (.iload_n 1, 1) := by decide +kernel
theorem dX6_addPause_5 : decode cX6_addPause 5 = .ok (.invokevirtual 89, 3) := by decide +kernel
theorem dX6_addPause_8 : decode cX6_addPause 8 = .ok (.ifCond .eq 28, 3) := by decide +kernel
theorem dX6_addPause_11 : decode cX6_addPause 11 = .ok (.iload_n 2, 1) := by decide +kernel
theorem dX6_addPause_12 : decode cX6_addPause 12 = .ok (.aload_n 0, 1) := by decide +kernel
theorem dX6_addPause_13 : decode cX6_addPause 13 = .ok (.getfield 9, 3) := by decide +kernel
theorem dX6_addPause_16 : decode cX6_addPause 16 = .ok (.sipush 999, 3) := by decide +kernel
theorem dX6_addPause_19 : decode cX6_addPause 19 = .ok (.invokestatic 74, 3) := by decide +kernel
theorem dX6_addPause_22 : decode cX6_addPause 22 = .ok (.ifCond .eq 14, 3) := by decide +kernel
theorem dX6_addPause_25 : decode cX6_addPause 25 = .ok (.iload_n 3, 1) := by decide +kernel
theorem dX6_addPause_26 : decode cX6_addPause 26 = .ok (.iload_n 2, 1) := by decide +kernel
theorem dX6_addPause_27 : decode cX6_addPause 27 = .ok (.sipush 999, 3) := by decide +kernel
theorem dX6_addPause_30 : decode cX6_addPause 30 = .ok (.invokestatic 74, 3) := by decide +kernel
theorem dX6_addPause_33 : decode cX6_addPause 33 = .ok (.ifCond .ne 5, 3) := by decide +kernel
theorem dX6_addPause_36 : decode cX6_addPause 36 = .ok (.iconst (-1), 1) := by decide +kernel
theorem dX6_addPause_37 : decode cX6_addPause 37 = .ok (.ireturn, 1) := by decide +kernel
theorem dX6_addPause_38 : decode cX6_addPause 38 = .ok (.aload_n 0, 1) := by decide +kernel
theorem dX6_addPause_39 : decode cX6_addPause 39 = .ok (.getfield 42, 3) := by decide +kernel
theorem dX6_addPause_42 : decode cX6_addPause 42 = .ok (.getfield 96, 3) := by decide +kernel
theorem dX6_addPause_45 : decode cX6_addPause 45 = .ok (.bipush 30, 2) := by decide +kernel
theorem dX6_addPause_47 : decode cX6_addPause 47 = .ok (.if_icmp .lt 8, 3) := by decide +kernel
theorem dX6_addPause_50 : decode cX6_addPause 50 = .ok (.bipush (-3), 2) := by decide +kernel
theorem dX6_addPause_52 : decode cX6_addPause 52 = .ok (.goto 13, 3) := by decide +kernel
theorem dX6_addPause_55 : decode cX6_addPause 55 = .ok (.aload_n 0, 1) := by decide +kernel
theorem dX6_addPause_56 : decode cX6_addPause 56 = .ok (.getfield 42, 3) := by decide +kernel
theorem dX6_addPause_59 : decode cX6_addPause 59 = .ok (.iload_n 1, 1) := by decide +kernel
theorem dX6_addPause_60 : decode cX6_addPause 60 = .ok (.iload_n 2, 1) := by decide +kernel
theorem dX6_addPause_61 : decode cX6_addPause 61 = .ok (.iload_n 3, 1) := by decide +kernel
theorem dX6_addPause_62 : decode cX6_addPause 62 = .ok (.invokevirtual 97, 3) := by decide +kernel
theorem dX6_addPause_65 : decode cX6_addPause 65 = .ok (.ireturn, 1) := by decide +kernel
theorem dX6_addCarrier_0 : decode cX6_addCarrier 0 = .ok (.iload_n 1, 1) := by decide +kernel
theorem dX6_addCarrier_1 : decode cX6_addCarrier 1 = .ok (.iconst 0, 1) := by decide +kernel
theorem dX6_addCarrier_2 : decode cX6_addCarrier 2 = .ok (.iconst 1, 1) := by decide +kernel
theorem dX6_addCarrier_3 : decode cX6_addCarrier 3 = .ok (.invokestatic 74, 3) := by decide +kernel
theorem dX6_addCarrier_6 : decode cX6_addCarrier 6 = .ok (.ifCond .eq 15, 3) := by decide +kernel
theorem dX6_addCarrier_9 : decode cX6_addCarrier 9 = .ok (.iload_n 2, 1) := by decide +kernel
theorem dX6_addCarrier_10 : decode cX6_addCarrier 10 = .ok (.bipush 10, 2) := by decide +kernel
theorem dX6_addCarrier_12 : decode cX6_addCarrier 12 = .ok (.sipush 500, 3) := by decide +kernel
theorem dX6_addCarrier_15 : decode cX6_addCarrier 15 = .ok (.invokestatic 74, 3) := by decide +kernel
theorem dX6_addCarrier_18 : decode cX6_addCarrier 18 = .ok (.ifCond .ne 5, 3) := by decide +kernel
theorem dX6_addCarrier_21 : decode cX6_addCarrier 21 = .ok (.iconst (-1), 1) := by decide +kernel
theorem dX6_addCarrier_22 : decode cX6_addCarrier 22 = .ok (.ireturn, 1) := by decide +kernel
theorem dX6_addCarrier_23 : decode cX6_addCarrier 23 = .ok (.aload_n 0, 1) := by decide +kernel
theorem dX6_addCarrier_24 : decode cX6_addCarrier 24 = .ok (.getfield 49, 3) := by decide +kernel
theorem dX6_addCarrier_27 : decode cX6_addCarrier 27 = .ok (.getfield 100, 3) := by decide +kernel
theorem dX6_addCarrier_30 : decode cX6_addCarrier 30 = .ok (.iconst 3, 1) := by decide +kernel
theorem dX6_addCarrier_31 : decode cX6_addCarrier 31 = .ok (.if_icmp .lt 8, 3) := by decide +kernel
theorem dX6_addCarrier_34 : decode cX6_addCarrier 34 = .ok (.bipush (-3), 2) := by decide +kernel
theorem dX6_addCarrier_36 : decode cX6_addCarrier 36 = .ok (.goto 12, 3) := by decide +kernel
theorem dX6_addCarrier_39 : decode cX6_addCarrier 39 = .ok (.aload_n 0, 1) := by decide +kernel
theorem dX6_addCarrier_40 : decode cX6_addCarrier 40 = .ok (.getfield 49, 3) := by decide +kernel
theorem dX6_addCarrier_43 : decode cX6_addCarrier 43 = .ok (.iload_n 1, 1) := by decide +kernel
theorem dX6_addCarrier_44 : decode cX6_addCarrier 44 = .ok (.iload_n 2, 1) := by decide +kernel
theorem dX6_addCarrier_45 : decode cX6_addCarrier 45 = .ok (.invokevirtual 101, 3) := by decide +kernel
theorem dX6_addCarrier_48 : decode cX6_addCarrier 48 = .ok (.ireturn, 1) := by decide +kernel
theorem dX6_handOver_0 : decode cX6_handOver 0 = .ok (.aload_n 0, 1) := by decide +kernel
theorem dX6_handOver_1 : decode cX6_handOver 1 = .ok (.getfield 35, 3) := by decide +kernel
theorem dX6_handOver_4 : decode cX6_handOver 4 = .ok (.iload_n 1, 1) := by decide +kernel
theorem dX6_handOver_5 : decode cX6_handOver 5 = .ok (.invokevirtual 89, 3) := by decide +kernel
theorem dX6_handOver_8 : decode cX6_handOver 8 = .ok (.ifCond .eq 14, 3) := by decide +kernel
theorem dX6_handOver_11 : decode cX6_handOver 11 = .ok (.aload_n 0, 1) := by decide +kernel
theorem dX6_handOver_12 : decode cX6_handOver 12 = .ok (.getfield 49, 3) := by decide +kernel
theorem dX6_handOver_15 : decode cX6_handOver 15 = .ok (.iload_n 2, 1) := by decide +kernel
theorem dX6_handOver_16 : decode cX6_handOver 16 = .ok (.invokevirtual 104, 3) := by decide +kernel
theorem dX6_handOver_19 : decode cX6_handOver 19 = .ok (.ifCond .ne 5, 3) := by decide +kernel
theorem dX6_handOver_22 : decode cX6_handOver 22 = .ok (.iconst (-1), 1) := by decide +kernel
theorem dX6_handOver_23 : decode cX6_handOver 23 = .ok (.ireturn, 1) := by decide +kernel
theorem dX6_handOver_24 : decode cX6_handOver 24 = .ok (.aload_n 0, 1) := by decide +kernel
theorem dX6_handOver_25 : decode cX6_handOver 25 = .ok (.getfield 35, 3) := by decide +kernel
theorem dX6_handOver_28 : decode cX6_handOver 28 = .ok (.getfield 105, 3) := by decide +kernel
theorem dX6_handOver_31 : decode cX6_handOver 31 = .ok (.iload_n 1, 1) := by decide +kernel
theorem dX6_handOver_32 : decode cX6_handOver 32 = .ok (.iaload, 1) := by decide +kernel
theorem dX6_handOver_33 : decode cX6_handOver 33 = .ok (.iload_n 2, 1) := by decide +kernel
theorem dX6_handOver_34 : decode cX6_handOver 34 = .ok (.if_icmp .eq 12, 3) := by decide +kernel
theorem dX6_handOver_37 : decode cX6_handOver 37 = .ok (.aload_n 0, 1) := by decide +kernel
theorem dX6_handOver_38 : decode cX6_handOver 38 = .ok (.iload_n 2, 1) := by decide +kernel
theorem dX6_handOver_39 : decode cX6_handOver 39 = .ok (.iload_n 1, 1) := by decide +kernel
theorem dX6_handOver_40 : decode cX6_handOver 40 = .ok (.invokevirtual 108, 3) := by decide +kernel
theorem dX6_handOver_43 : decode cX6_handOver 43 = .ok (.ifCond .ne 6, 3) := by decide +kernel
theorem dX6_handOver_46 : decode cX6_handOver 46 = .ok (.bipush (-2), 2) := by decide +kernel
theorem dX6_handOver_48 : decode cX6_handOver 48 = .ok (.ireturn, 1) := by decide +kernel
theorem dX6_handOver_49 : decode cX6_handOver 49 = .ok (.aload_n 0, 1) := by decide +kernel
theorem dX6_handOver_50 : decode cX6_handOver 50 = .ok (.getfield 35, 3) := by decide +kernel
theorem dX6_handOver_53 : decode cX6_handOver 53 = .ok (.getfield 105, 3) := by decide +kernel
theorem dX6_handOver_56 : decode cX6_handOver 56 = .ok (.iload_n 1, 1) := by decide +kernel
theorem dX6_handOver_57 : decode cX6_handOver 57 = .ok (.iload_n 2, 1) := by decide +kernel
theorem dX6_handOver_58 : decode cX6_handOver 58 = .ok (.iastore, 1) := by decide +kernel
theorem dX6_handOver_59 : decode cX6_handOver 59 = .ok (.aload_n 0, 1) := by decide +kernel
theorem dX6_handOver_60 : decode cX6_handOver 60 = .ok (.getfield 35, 3) := by decide +kernel
theorem dX6_handOver_63 : decode cX6_handOver 63 = .ok (.iload_n 2, 1) := by decide +kernel
theorem dX6_handOver_64 : decode cX6_handOver 64 = .ok (.invokevirtual 112, 3) := by decide +kernel
theorem dX6_handOver_67 : decode cX6_handOver 67 = .ok (.ireturn, 1) := by decide +kernel
theorem dX6_takeBack_0 : decode cX6_takeBack 0 = .ok (.aload_n 0, 1) := by decide +kernel
theorem dX6_takeBack_1 : decode cX6_takeBack 1 = .ok (.getfield 35, 3) := by decide +kernel
theorem dX6_takeBack_4 : decode cX6_takeBack 4 = .ok (.iload_n 1, 1) := by decide +kernel
theorem dX6_takeBack_5 : decode cX6_takeBack 5 = .ok (.invokevirtual 89, 3) := by decide +kernel
theorem dX6_takeBack_8 : decode cX6_takeBack 8 = .ok (.ifCond .ne 5, 3) := by decide +kernel
theorem dX6_takeBack_11 : decode cX6_takeBack 11 = .ok (.iconst (-1), 1) := by decide +kernel
theorem dX6_takeBack_12 : decode cX6_takeBack 12 = .ok (.ireturn, 1) := by decide +kernel
theorem dX6_takeBack_13 : decode cX6_takeBack 13 = .ok (.aload_n 0, 1) := by decide +kernel
theorem dX6_takeBack_14 : decode cX6_takeBack 14 = .ok (.getfield 35, 3) := by decide +kernel
theorem dX6_takeBack_17 : decode cX6_takeBack 17 = .ok (.getfield 105, 3) := by decide +kernel
theorem dX6_takeBack_20 : decode cX6_takeBack 20 = .ok (.iload_n 1, 1) := by decide +kernel
theorem dX6_takeBack_21 : decode cX6_takeBack 21 = .ok (.iaload, 1) := by decide +kernel
theorem dX6_takeBack_22 : decode cX6_takeBack 22 = .ok (.istore_n 2, 1) := by decide +kernel
theorem dX6_takeBack_23 : decode cX6_takeBack 23 = .ok (.iload_n 2, 1) := by decide +kernel
theorem dX6_takeBack_24 : decode cX6_takeBack 24 = .ok (.iconst (-1), 1) := by decide +kernel
theorem dX6_takeBack_25 : decode cX6_takeBack 25 = .ok (.if_icmp .ne 6, 3) := by decide +kernel
theorem dX6_takeBack_28 : decode cX6_takeBack 28 = .ok (.bipush (-2), 2) := by decide +kernel
theorem dX6_takeBack_30 : decode cX6_takeBack 30 = .ok (.ireturn, 1) := by decide +kernel
theorem dX6_takeBack_31 : decode cX6_takeBack 31 = .ok (.aload_n 0, 1) := by decide +kernel
theorem dX6_takeBack_32 : decode cX6_takeBack 32 = .ok (.getfield 35, 3) := by decide +kernel
theorem dX6_takeBack_35 : decode cX6_takeBack 35 = .ok (.getfield 105, 3) := by decide +kernel
theorem dX6_takeBack_38 : decode cX6_takeBack 38 = .ok (.iload_n 1, 1) := by decide +kernel
theorem dX6_takeBack_39 : decode cX6_takeBack 39 = .ok (.iconst (-1), 1) := by decide +kernel
theorem dX6_takeBack_40 : decode cX6_takeBack 40 = .ok (.iastore, 1) := by decide +kernel
theorem dX6_takeBack_41 : decode cX6_takeBack 41 = .ok (.iload_n 2, 1) := by decide +kernel
theorem dX6_takeBack_42 : decode cX6_takeBack 42 = .ok (.ireturn, 1) := by decide +kernel
theorem dX6_addBiscuits_0 : decode cX6_addBiscuits 0 = .ok (.aload_n 0, 1) := by decide +kernel
theorem dX6_addBiscuits_1 : decode cX6_addBiscuits 1 = .ok (.getfield 49, 3) := by decide +kernel
theorem dX6_addBiscuits_4 : decode cX6_addBiscuits 4 = .ok (.iload_n 1, 1) := by decide +kernel
theorem dX6_addBiscuits_5 : decode cX6_addBiscuits 5 = .ok (.invokevirtual 104, 3) := by decide +kernel
theorem dX6_addBiscuits_8 : decode cX6_addBiscuits 8 = .ok (.ifCond .eq 13, 3) := by decide +kernel
theorem dX6_addBiscuits_11 : decode cX6_addBiscuits 11 = .ok (.iload_n 2, 1) := by decide +kernel
theorem dX6_addBiscuits_12 : decode cX6_addBiscuits 12 = .ok (.iconst 1, 1) := by decide +kernel
theorem dX6_addBiscuits_13 : decode cX6_addBiscuits 13 = .ok (.bipush 99, 2) := by decide +kernel
theorem dX6_addBiscuits_15 : decode cX6_addBiscuits 15 = .ok (.invokestatic 74, 3) := by decide +kernel
theorem dX6_addBiscuits_18 : decode cX6_addBiscuits 18 = .ok (.ifCond .ne 5, 3) := by decide +kernel
theorem dX6_addBiscuits_21 : decode cX6_addBiscuits 21 = .ok (.iconst (-1), 1) := by decide +kernel
theorem dX6_addBiscuits_22 : decode cX6_addBiscuits 22 = .ok (.ireturn, 1) := by decide +kernel
theorem dX6_addBiscuits_23 : decode cX6_addBiscuits 23 = .ok (.aload_n 0, 1) := by decide +kernel
theorem dX6_addBiscuits_24 : decode cX6_addBiscuits 24 = .ok (.getfield 49, 3) := by decide +kernel
theorem dX6_addBiscuits_27 : decode cX6_addBiscuits 27 = .ok (.getfield 116, 3) := by decide +kernel
theorem dX6_addBiscuits_30 : decode cX6_addBiscuits 30 = .ok (.iload_n 1, 1) := by decide +kernel
theorem dX6_addBiscuits_31 : decode cX6_addBiscuits 31 = .ok (.iaload, 1) := by decide +kernel
theorem dX6_addBiscuits_32 : decode cX6_addBiscuits 32 = .ok (.iload_n 2, 1) := by decide +kernel
theorem dX6_addBiscuits_33 : decode cX6_addBiscuits 33 = .ok (.iadd, 1) := by decide +kernel
theorem dX6_addBiscuits_34 : decode cX6_addBiscuits 34 = .ok (.sipush 500, 3) := by decide +kernel
theorem dX6_addBiscuits_37 : decode cX6_addBiscuits 37 = .ok (.if_icmp .le 6, 3) := by decide +kernel
theorem dX6_addBiscuits_40 : decode cX6_addBiscuits 40 = .ok (.bipush (-3), 2) := by decide +kernel
theorem dX6_addBiscuits_42 : decode cX6_addBiscuits 42 = .ok (.ireturn, 1) := by decide +kernel
theorem dX6_addBiscuits_43 : decode cX6_addBiscuits 43 = .ok (.aload_n 0, 1) := by decide +kernel
theorem dX6_addBiscuits_44 : decode cX6_addBiscuits 44 = .ok (.getfield 49, 3) := by decide +kernel
theorem dX6_addBiscuits_47 : decode cX6_addBiscuits 47 = .ok (.getfield 116, 3) := by decide +kernel
theorem dX6_addBiscuits_50 : decode cX6_addBiscuits 50 = .ok (.iload_n 1, 1) := by decide +kernel
theorem dX6_addBiscuits_51 : decode cX6_addBiscuits 51 = .ok (.dup2, 1) := by decide +kernel
theorem dX6_addBiscuits_52 : decode cX6_addBiscuits 52 = .ok (.iaload, 1) := by decide +kernel
theorem dX6_addBiscuits_53 : decode cX6_addBiscuits 53 = .ok (.iload_n 2, 1) := by decide +kernel
theorem dX6_addBiscuits_54 : decode cX6_addBiscuits 54 = .ok (.iadd, 1) := by decide +kernel
theorem dX6_addBiscuits_55 : decode cX6_addBiscuits 55 = .ok (.iastore, 1) := by decide +kernel
theorem dX6_addBiscuits_56 : decode cX6_addBiscuits 56 = .ok (.aload_n 0, 1) := by decide +kernel
theorem dX6_addBiscuits_57 : decode cX6_addBiscuits 57 = .ok (.getfield 49, 3) := by decide +kernel
theorem dX6_addBiscuits_60 : decode cX6_addBiscuits 60 = .ok (.getfield 116, 3) := by decide +kernel
theorem dX6_addBiscuits_63 : decode cX6_addBiscuits 63 = .ok (.iload_n 1, 1) := by decide +kernel
theorem dX6_addBiscuits_64 : decode cX6_addBiscuits 64 = .ok (.iaload, 1) := by decide +kernel
theorem dX6_addBiscuits_65 : decode cX6_addBiscuits 65 = .ok (.ireturn, 1) := by decide +kernel
theorem dX6_changeSetting_0 : decode cX6_changeSetting 0 = .ok (.iload_n 1, 1) := by decide +kernel
theorem dX6_changeSetting_1 : decode cX6_changeSetting 1 = .ok (.ifCond .ne 25, 3) := by decide +kernel
theorem dX6_changeSetting_4 : decode cX6_changeSetting 4 = .ok (.iload_n 2, 1) := by decide +kernel
theorem dX6_changeSetting_5 : decode cX6_changeSetting 5 = .ok (.iconst 1, 1) := by decide +kernel
theorem dX6_changeSetting_6 : decode cX6_changeSetting 6 = .ok (.bipush 20, 2) := by decide +kernel
theorem dX6_changeSetting_8 : decode cX6_changeSetting 8 = .ok (.invokestatic 74, 3) := by decide +kernel
theorem dX6_changeSetting_11 : decode cX6_changeSetting 11 = .ok (.ifCond .eq 15, 3) := by decide +kernel
theorem dX6_changeSetting_14 : decode cX6_changeSetting 14 = .ok (.aload_n 0, 1) := by decide +kernel
theorem dX6_changeSetting_15 : decode cX6_changeSetting 15 = .ok (.getfield 15, 3) := by decide +kernel
theorem dX6_changeSetting_18 : decode cX6_changeSetting 18 = .ok (.istore_n 3, 1) := by decide +kernel
theorem dX6_changeSetting_19 : decode cX6_changeSetting 19 = .ok (.aload_n 0, 1) := by decide +kernel
theorem dX6_changeSetting_20 : decode cX6_changeSetting 20 = .ok (.iload_n 2, 1) := by decide +kernel
theorem dX6_changeSetting_21 : decode cX6_changeSetting 21 = .ok (.putfield 15, 3) := by decide +kernel
theorem dX6_changeSetting_24 : decode cX6_changeSetting 24 = .ok (.iload_n 3, 1) := by decide +kernel
theorem dX6_changeSetting_25 : decode cX6_changeSetting 25 = .ok (.ireturn, 1) := by decide +kernel
theorem dX6_changeSetting_26 : decode cX6_changeSetting 26 = .ok (.iload_n 1, 1) := by decide +kernel
theorem dX6_changeSetting_27 : decode cX6_changeSetting 27 = .ok (.iconst 1, 1) := by decide +kernel
theorem dX6_changeSetting_28 : decode cX6_changeSetting 28 = .ok (.if_icmp .ne 25, 3) := by decide +kernel
theorem dX6_changeSetting_31 : decode cX6_changeSetting 31 = .ok (.iload_n 2, 1) := by decide +kernel
theorem dX6_changeSetting_32 : decode cX6_changeSetting 32 = .ok (.iconst 1, 1) := by decide +kernel
theorem dX6_changeSetting_33 : decode cX6_changeSetting 33 = .ok (.bipush 50, 2) := by decide +kernel
theorem dX6_changeSetting_35 : decode cX6_changeSetting 35 = .ok (.invokestatic 74, 3) := by decide +kernel
theorem dX6_changeSetting_38 : decode cX6_changeSetting 38 = .ok (.ifCond .eq 15, 3) := by decide +kernel
theorem dX6_changeSetting_41 : decode cX6_changeSetting 41 = .ok (.aload_n 0, 1) := by decide +kernel
theorem dX6_changeSetting_42 : decode cX6_changeSetting 42 = .ok (.getfield 18, 3) := by decide +kernel
theorem dX6_changeSetting_45 : decode cX6_changeSetting 45 = .ok (.istore_n 3, 1) := by decide +kernel
theorem dX6_changeSetting_46 : decode cX6_changeSetting 46 = .ok (.aload_n 0, 1) := by decide +kernel
theorem dX6_changeSetting_47 : decode cX6_changeSetting 47 = .ok (.iload_n 2, 1) := by decide +kernel
theorem dX6_changeSetting_48 : decode cX6_changeSetting 48 = .ok (.putfield 18, 3) := by decide +kernel
theorem dX6_changeSetting_51 : decode cX6_changeSetting 51 = .ok (.iload_n 3, 1) := by decide +kernel
theorem dX6_changeSetting_52 : decode cX6_changeSetting 52 = .ok (.ireturn, 1) := by decide +kernel
theorem dX6_changeSetting_53 : decode cX6_changeSetting 53 = .ok (.iconst (-1), 1) := by decide +kernel
theorem dX6_changeSetting_54 : decode cX6_changeSetting 54 = .ok (.ireturn, 1) := by decide +kernel
theorem dX6_letDaysGo_0 : decode cX6_letDaysGo 0 = .ok (.iload_n 1, 1) := by decide +kernel
theorem dX6_letDaysGo_1 : decode cX6_letDaysGo 1 = .ok (.iconst 1, 1) := by decide +kernel
theorem dX6_letDaysGo_2 : decode cX6_letDaysGo 2 = .ok (.bipush 31, 2) := by decide +kernel
theorem dX6_letDaysGo_4 : decode cX6_letDaysGo 4 = .ok (.invokestatic 74, 3) := by decide +kernel
theorem dX6_letDaysGo_7 : decode cX6_letDaysGo 7 = .ok (.ifCond .ne 5, 3) := by decide +kernel
theorem dX6_letDaysGo_10 : decode cX6_letDaysGo 10 = .ok (.iconst (-1), 1) := by decide +kernel
theorem dX6_letDaysGo_11 : decode cX6_letDaysGo 11 = .ok (.ireturn, 1) := by decide +kernel
theorem dX6_letDaysGo_12 : decode cX6_letDaysGo 12 = .ok (.aload_n 0, 1) := by decide +kernel
theorem dX6_letDaysGo_13 : decode cX6_letDaysGo 13 = .ok (.getfield 9, 3) := by decide +kernel
theorem dX6_letDaysGo_16 : decode cX6_letDaysGo 16 = .ok (.iload_n 1, 1) := by decide +kernel
theorem dX6_letDaysGo_17 : decode cX6_letDaysGo 17 = .ok (.iadd, 1) := by decide +kernel
theorem dX6_letDaysGo_18 : decode cX6_letDaysGo 18 = .ok (.sipush 1000, 3) := by decide +kernel
theorem dX6_letDaysGo_21 : decode cX6_letDaysGo 21 = .ok (.if_icmp .le 6, 3) := by decide +kernel
theorem dX6_letDaysGo_24 : decode cX6_letDaysGo 24 = .ok (.bipush (-3), 2) := by decide +kernel
theorem dX6_letDaysGo_26 : decode cX6_letDaysGo 26 = .ok (.ireturn, 1) := by decide +kernel
theorem dX6_letDaysGo_27 : decode cX6_letDaysGo 27 = .ok (.aload_n 0, 1) := by decide +kernel
theorem dX6_letDaysGo_28 : decode cX6_letDaysGo 28 = .ok (.getfield 21, 3) := by decide +kernel
theorem dX6_letDaysGo_31 : decode cX6_letDaysGo 31 = .ok (.iconst 1, 1) := by decide +kernel
theorem dX6_letDaysGo_32 : decode cX6_letDaysGo 32 = .ok (.iaload, 1) := by decide +kernel
theorem dX6_letDaysGo_33 : decode cX6_letDaysGo 33 = .ok (.istore_n 3, 1) := by decide +kernel
theorem dX6_letDaysGo_34 : decode cX6_letDaysGo 34 = .ok (.iconst 0, 1) := by decide +kernel
theorem dX6_letDaysGo_35 : decode cX6_letDaysGo 35 = .ok (.istore 4, 2) := by decide +kernel
theorem dX6_letDaysGo_37 : decode cX6_letDaysGo 37 = .ok (.iload 4, 2) := by decide +kernel
theorem dX6_letDaysGo_39 : decode cX6_letDaysGo 39 = .ok (.iload_n 1, 1) := by decide +kernel
theorem dX6_letDaysGo_40 : decode cX6_letDaysGo 40 = .ok (.if_icmp .ge 111, 3) := by decide +kernel
theorem dX6_letDaysGo_43 : decode cX6_letDaysGo 43 = .ok (.iconst 0, 1) := by decide +kernel
theorem dX6_letDaysGo_44 : decode cX6_letDaysGo 44 = .ok (.istore 5, 2) := by decide +kernel
theorem dX6_letDaysGo_46 : decode cX6_letDaysGo 46 = .ok (.iload 5, 2) := by decide +kernel
theorem dX6_letDaysGo_48 : decode cX6_letDaysGo 48 = .ok (.aload_n 0, 1) := by decide +kernel
theorem dX6_letDaysGo_49 : decode cX6_letDaysGo 49 = .ok (.getfield 49, 3) := by decide +kernel
theorem dX6_letDaysGo_52 : decode cX6_letDaysGo 52 = .ok (.getfield 100, 3) := by decide +kernel
theorem dX6_letDaysGo_55 : decode cX6_letDaysGo 55 = .ok (.if_icmp .ge 55, 3) := by decide +kernel
theorem dX6_letDaysGo_58 : decode cX6_letDaysGo 58 = .ok (.aload_n 2, 1) := by decide +kernel
theorem dX6_letDaysGo_59 : decode cX6_letDaysGo 59 = .ok (.aload_n 0, 1) := by decide +kernel
theorem dX6_letDaysGo_60 : decode cX6_letDaysGo 60 = .ok (.iload 5, 2) := by decide +kernel
theorem dX6_letDaysGo_62 : decode cX6_letDaysGo 62 = .ok (.aload_n 0, 1) := by decide +kernel
theorem dX6_letDaysGo_63 : decode cX6_letDaysGo 63 = .ok (.getfield 9, 3) := by decide +kernel
theorem dX6_letDaysGo_66 : decode cX6_letDaysGo 66 = .ok (.iconst (-1), 1) := by decide +kernel
theorem dX6_letDaysGo_67 : decode cX6_letDaysGo 67 = .ok (.invokevirtual 119, 3) := by decide +kernel
theorem dX6_letDaysGo_70 : decode cX6_letDaysGo 70 = .ok (.aload_n 0, 1) := by decide +kernel
theorem dX6_letDaysGo_71 : decode cX6_letDaysGo 71 = .ok (.getfield 49, 3) := by decide +kernel
theorem dX6_letDaysGo_74 : decode cX6_letDaysGo 74 = .ok (.getfield 125, 3) := by decide +kernel
theorem dX6_letDaysGo_77 : decode cX6_letDaysGo 77 = .ok (.iload 5, 2) := by decide +kernel
theorem dX6_letDaysGo_79 : decode cX6_letDaysGo 79 = .ok (.dup2, 1) := by decide +kernel
theorem dX6_letDaysGo_80 : decode cX6_letDaysGo 80 = .ok (.iaload, 1) := by decide +kernel
theorem dX6_letDaysGo_81 : decode cX6_letDaysGo 81 = .ok (.aload_n 2, 1) := by decide +kernel
theorem dX6_letDaysGo_82 : decode cX6_letDaysGo 82 = .ok (.getfield 128, 3) := by decide +kernel
theorem dX6_letDaysGo_85 : decode cX6_letDaysGo 85 = .ok (.iadd, 1) := by decide +kernel
theorem dX6_letDaysGo_86 : decode cX6_letDaysGo 86 = .ok (.iastore, 1) := by decide +kernel
theorem dX6_letDaysGo_87 : decode cX6_letDaysGo 87 = .ok (.aload_n 0, 1) := by decide +kernel
theorem dX6_letDaysGo_88 : decode cX6_letDaysGo 88 = .ok (.getfield 49, 3) := by decide +kernel
theorem dX6_letDaysGo_91 : decode cX6_letDaysGo 91 = .ok (.getfield 130, 3) := by decide +kernel
theorem dX6_letDaysGo_94 : decode cX6_letDaysGo 94 = .ok (.iload 5, 2) := by decide +kernel
theorem dX6_letDaysGo_96 : decode cX6_letDaysGo 96 = .ok (.dup2, 1) := by decide +kernel
theorem dX6_letDaysGo_97 : decode cX6_letDaysGo 97 = .ok (.iaload, 1) := by decide +kernel
theorem dX6_letDaysGo_98 : decode cX6_letDaysGo 98 = .ok (.aload_n 2, 1) := by decide +kernel
theorem dX6_letDaysGo_99 : decode cX6_letDaysGo 99 = .ok (.getfield 133, 3) := by decide +kernel
theorem dX6_letDaysGo_102 : decode cX6_letDaysGo 102 = .ok (.iadd, 1) := by decide +kernel
theorem dX6_letDaysGo_103 : decode cX6_letDaysGo 103 = .ok (.iastore, 1) := by decide +kernel
theorem dX6_letDaysGo_104 : decode cX6_letDaysGo 104 = .ok (.iinc 5 1, 3) := by decide +kernel
theorem dX6_letDaysGo_107 : decode cX6_letDaysGo 107 = .ok (.goto (-61), 3) := by decide +kernel
theorem dX6_letDaysGo_110 : decode cX6_letDaysGo 110 = .ok (.aload_n 0, 1) := by decide +kernel
theorem dX6_letDaysGo_111 : decode cX6_letDaysGo 111 = .ok (.invokevirtual 135, 3) := by decide +kernel
theorem dX6_letDaysGo_114 : decode cX6_letDaysGo 114 = .ok (.aload_n 0, 1) := by decide +kernel
theorem dX6_letDaysGo_115 : decode cX6_letDaysGo 115 = .ok (.getfield 9, 3) := by decide +kernel
theorem dX6_letDaysGo_118 : decode cX6_letDaysGo 118 = .ok (.invokestatic 138, 3) := by decide +kernel
theorem dX6_letDaysGo_121 : decode cX6_letDaysGo 121 = .ok (.ifCond .eq 14, 3) := by decide +kernel
theorem dX6_letDaysGo_124 : decode cX6_letDaysGo 124 = .ok (.aload_n 0, 1) := by decide +kernel
theorem dX6_letDaysGo_125 : decode cX6_letDaysGo 125 = .ok (.invokevirtual 141, 3) := by decide +kernel
theorem dX6_letDaysGo_128 : decode cX6_letDaysGo 128 = .ok (.aload_n 0, 1) := by decide +kernel
theorem dX6_letDaysGo_129 : decode cX6_letDaysGo 129 = .ok (.getfield 35, 3) := by decide +kernel
theorem dX6_letDaysGo_132 : decode cX6_letDaysGo 132 = .ok (.invokevirtual 144, 3) := by decide +kernel
theorem dX6_letDaysGo_135 : decode cX6_letDaysGo 135 = .ok (.aload_n 0, 1) := by decide +kernel
theorem dX6_letDaysGo_136 : decode cX6_letDaysGo 136 = .ok (.dup, 1) := by decide +kernel
theorem dX6_letDaysGo_137 : decode cX6_letDaysGo 137 = .ok (.getfield 9, 3) := by decide +kernel
theorem dX6_letDaysGo_140 : decode cX6_letDaysGo 140 = .ok (.iconst 1, 1) := by decide +kernel
theorem dX6_letDaysGo_141 : decode cX6_letDaysGo 141 = .ok (.iadd, 1) := by decide +kernel
theorem dX6_letDaysGo_142 : decode cX6_letDaysGo 142 = .ok (.putfield 9, 3) := by decide +kernel
theorem dX6_letDaysGo_145 : decode cX6_letDaysGo 145 = .ok (.iinc 4 1, 3) := by decide +kernel
theorem dX6_letDaysGo_148 : decode cX6_letDaysGo 148 = .ok (.goto (-111), 3) := by decide +kernel
theorem dX6_letDaysGo_151 : decode cX6_letDaysGo 151 = .ok (.aload_n 0, 1) := by decide +kernel
theorem dX6_letDaysGo_152 : decode cX6_letDaysGo 152 = .ok (.getfield 21, 3) := by decide +kernel
theorem dX6_letDaysGo_155 : decode cX6_letDaysGo 155 = .ok (.iconst 1, 1) := by decide +kernel
theorem dX6_letDaysGo_156 : decode cX6_letDaysGo 156 = .ok (.iaload, 1) := by decide +kernel
theorem dX6_letDaysGo_157 : decode cX6_letDaysGo 157 = .ok (.iload_n 3, 1) := by decide +kernel
theorem dX6_letDaysGo_158 : decode cX6_letDaysGo 158 = .ok (.isub, 1) := by decide +kernel
theorem dX6_letDaysGo_159 : decode cX6_letDaysGo 159 = .ok (.ireturn, 1) := by decide +kernel
theorem dX6_bringPapers_0 : decode cX6_bringPapers 0 = .ok (.iconst 0, 1) := by decide +kernel
theorem dX6_bringPapers_1 : decode cX6_bringPapers 1 = .ok (.istore_n 1, 1) := by decide +kernel
theorem dX6_bringPapers_2 : decode cX6_bringPapers 2 = .ok (.iload_n 1, 1) := by decide +kernel
theorem dX6_bringPapers_3 : decode cX6_bringPapers 3 = .ok (.aload_n 0, 1) := by decide +kernel
theorem dX6_bringPapers_4 : decode cX6_bringPapers 4 = .ok (.getfield 35, 3) := by decide +kernel
theorem dX6_bringPapers_7 : decode cX6_bringPapers 7 = .ok (.getfield 85, 3) := by decide +kernel
theorem dX6_bringPapers_10 : decode cX6_bringPapers 10 = .ok (.if_icmp .ge 65, 3) := by decide +kernel
theorem dX6_bringPapers_13 : decode cX6_bringPapers 13 = .ok (.aload_n 0, 1) := by decide +kernel
theorem dX6_bringPapers_14 : decode cX6_bringPapers 14 = .ok (.getfield 35, 3) := by decide +kernel
theorem dX6_bringPapers_17 : decode cX6_bringPapers 17 = .ok (.getfield 147, 3) := by decide +kernel
theorem dX6_bringPapers_20 : decode cX6_bringPapers 20 = .ok (.iload_n 1, 1) := by decide +kernel
theorem dX6_bringPapers_21 : decode cX6_bringPapers 21 = .ok (.iaload, 1) := by decide +kernel
theorem dX6_bringPapers_22 : decode cX6_bringPapers 22 = .ok (.istore_n 2, 1) := by decide +kernel
theorem dX6_bringPapers_23 : decode cX6_bringPapers 23 = .ok (.aload_n 0, 1) := by decide +kernel
theorem dX6_bringPapers_24 : decode cX6_bringPapers 24 = .ok (.getfield 35, 3) := by decide +kernel
theorem dX6_bringPapers_27 : decode cX6_bringPapers 27 = .ok (.getfield 150, 3) := by decide +kernel
theorem dX6_bringPapers_30 : decode cX6_bringPapers 30 = .ok (.iload_n 2, 1) := by decide +kernel
theorem dX6_bringPapers_31 : decode cX6_bringPapers 31 = .ok (.iaload, 1) := by decide +kernel
theorem dX6_bringPapers_32 : decode cX6_bringPapers 32 = .ok (.istore_n 3, 1) := by decide +kernel
theorem dX6_bringPapers_33 : decode cX6_bringPapers 33 = .ok (.aload_n 0, 1) := by decide +kernel
theorem dX6_bringPapers_34 : decode cX6_bringPapers 34 = .ok (.iload_n 2, 1) := by decide +kernel
theorem dX6_bringPapers_35 : decode cX6_bringPapers 35 = .ok (.invokevirtual 153, 3) := by decide +kernel
theorem dX6_bringPapers_38 : decode cX6_bringPapers 38 = .ok (.istore 4, 2) := by decide +kernel
theorem dX6_bringPapers_40 : decode cX6_bringPapers 40 = .ok (.aload_n 0, 1) := by decide +kernel
theorem dX6_bringPapers_41 : decode cX6_bringPapers 41 = .ok (.getfield 21, 3) := by decide +kernel
theorem dX6_bringPapers_44 : decode cX6_bringPapers 44 = .ok (.iconst 0, 1) := by decide +kernel
theorem dX6_bringPapers_45 : decode cX6_bringPapers 45 = .ok (.dup2, 1) := by decide +kernel
theorem dX6_bringPapers_46 : decode cX6_bringPapers 46 = .ok (.iaload, 1) := by decide +kernel
theorem dX6_bringPapers_47 : decode cX6_bringPapers 47 = .ok (.iload_n 3, 1) := by decide +kernel
theorem dX6_bringPapers_48 : decode cX6_bringPapers 48 = .ok (.iadd, 1) := by decide +kernel
theorem dX6_bringPapers_49 : decode cX6_bringPapers 49 = .ok (.iastore, 1) := by decide +kernel
theorem dX6_bringPapers_50 : decode cX6_bringPapers 50 = .ok (.aload_n 0, 1) := by decide +kernel
theorem dX6_bringPapers_51 : decode cX6_bringPapers 51 = .ok (.getfield 21, 3) := by decide +kernel
theorem dX6_bringPapers_54 : decode cX6_bringPapers 54 = .ok (.iload 4, 2) := by decide +kernel
theorem dX6_bringPapers_56 : decode cX6_bringPapers 56 = .ok (.dup2, 1) := by decide +kernel
theorem dX6_bringPapers_57 : decode cX6_bringPapers 57 = .ok (.iaload, 1) := by decide +kernel
theorem dX6_bringPapers_58 : decode cX6_bringPapers 58 = .ok (.iload_n 3, 1) := by decide +kernel
theorem dX6_bringPapers_59 : decode cX6_bringPapers 59 = .ok (.iadd, 1) := by decide +kernel
theorem dX6_bringPapers_60 : decode cX6_bringPapers 60 = .ok (.iastore, 1) := by decide +kernel
theorem dX6_bringPapers_61 : decode cX6_bringPapers 61 = .ok (.aload_n 0, 1) := by decide +kernel
theorem dX6_bringPapers_62 : decode cX6_bringPapers 62 = .ok (.iload_n 2, 1) := by decide +kernel
theorem dX6_bringPapers_63 : decode cX6_bringPapers 63 = .ok (.iload_n 3, 1) := by decide +kernel
theorem dX6_bringPapers_64 : decode cX6_bringPapers 64 = .ok (.iload 4, 2) := by decide +kernel
theorem dX6_bringPapers_66 : decode cX6_bringPapers 66 = .ok (.invokevirtual 156, 3) := by decide +kernel
theorem dX6_bringPapers_69 : decode cX6_bringPapers 69 = .ok (.iinc 1 1, 3) := by decide +kernel
theorem dX6_bringPapers_72 : decode cX6_bringPapers 72 = .ok (.goto (-70), 3) := by decide +kernel
theorem dX6_bringPapers_75 : decode cX6_bringPapers 75 = .ok (.return_, 1) := by decide +kernel
theorem dX6_fateOfPapers_0 : decode cX6_fateOfPapers 0 = .ok (.aload_n 0, 1) := by decide +kernel
theorem dX6_fateOfPapers_1 : decode cX6_fateOfPapers 1 = .ok (.getfield 35, 3) := by decide +kernel
theorem dX6_fateOfPapers_4 : decode cX6_fateOfPapers 4 = .ok (.getfield 105, 3) := by decide +kernel
theorem dX6_fateOfPapers_7 : decode cX6_fateOfPapers 7 = .ok (.iload_n 1, 1) := by decide +kernel
theorem dX6_fateOfPapers_8 : decode cX6_fateOfPapers 8 = .ok (.iaload, 1) := by decide +kernel
theorem dX6_fateOfPapers_9 : decode cX6_fateOfPapers 9 = .ok (.istore_n 2, 1) := by decide +kernel
theorem dX6_fateOfPapers_10 : decode cX6_fateOfPapers 10 = .ok (.aload_n 0, 1) := by decide +kernel
theorem dX6_fateOfPapers_11 : decode cX6_fateOfPapers 11 = .ok (.getfield 42, 3) := by decide +kernel
theorem dX6_fateOfPapers_14 : decode cX6_fateOfPapers 14 = .ok (.iload_n 1, 1) := by decide +kernel
theorem dX6_fateOfPapers_15 : decode cX6_fateOfPapers 15 = .ok (.aload_n 0, 1) := by decide +kernel
theorem dX6_fateOfPapers_16 : decode cX6_fateOfPapers 16 = .ok (.getfield 9, 3) := by decide +kernel
theorem dX6_fateOfPapers_19 : decode cX6_fateOfPapers 19 = .ok (.invokevirtual 160, 3) := by decide +kernel
theorem dX6_fateOfPapers_22 : decode cX6_fateOfPapers 22 = .ok (.ifCond .eq 5, 3) := by decide +kernel
theorem dX6_fateOfPapers_25 : decode cX6_fateOfPapers 25 = .ok (.iconst 2, 1) := by decide +kernel
theorem dX6_fateOfPapers_26 : decode cX6_fateOfPapers 26 = .ok (.ireturn, 1) := by decide +kernel
theorem dX6_fateOfPapers_27 : decode cX6_fateOfPapers 27 = .ok (.iload_n 2, 1) := by decide +kernel
theorem dX6_fateOfPapers_28 : decode cX6_fateOfPapers 28 = .ok (.iconst (-1), 1) := by decide +kernel
theorem dX6_fateOfPapers_29 : decode cX6_fateOfPapers 29 = .ok (.if_icmp .ne 5, 3) := by decide +kernel
theorem dX6_fateOfPapers_32 : decode cX6_fateOfPapers 32 = .ok (.iconst 5, 1) := by decide +kernel
theorem dX6_fateOfPapers_33 : decode cX6_fateOfPapers 33 = .ok (.ireturn, 1) := by decide +kernel
theorem dX6_fateOfPapers_34 : decode cX6_fateOfPapers 34 = .ok (.aload_n 0, 1) := by decide +kernel
theorem dX6_fateOfPapers_35 : decode cX6_fateOfPapers 35 = .ok (.getfield 35, 3) := by decide +kernel
theorem dX6_fateOfPapers_38 : decode cX6_fateOfPapers 38 = .ok (.getfield 150, 3) := by decide +kernel
theorem dX6_fateOfPapers_41 : decode cX6_fateOfPapers 41 = .ok (.iload_n 1, 1) := by decide +kernel
theorem dX6_fateOfPapers_42 : decode cX6_fateOfPapers 42 = .ok (.iaload, 1) := by decide +kernel
theorem dX6_fateOfPapers_43 : decode cX6_fateOfPapers 43 = .ok (.aload_n 0, 1) := by decide +kernel
theorem dX6_fateOfPapers_44 : decode cX6_fateOfPapers 44 = .ok (.aload_n 0, 1) := by decide +kernel
theorem dX6_fateOfPapers_45 : decode cX6_fateOfPapers 45 = .ok (.getfield 9, 3) := by decide +kernel
theorem dX6_fateOfPapers_48 : decode cX6_fateOfPapers 48 = .ok (.invokevirtual 163, 3) := by decide +kernel
theorem dX6_fateOfPapers_51 : decode cX6_fateOfPapers 51 = .ok (.imul, 1) := by decide +kernel
theorem dX6_fateOfPapers_52 : decode cX6_fateOfPapers 52 = .ok (.aload_n 0, 1) := by decide +kernel
theorem dX6_fateOfPapers_53 : decode cX6_fateOfPapers 53 = .ok (.getfield 49, 3) := by decide +kernel
theorem dX6_fateOfPapers_56 : decode cX6_fateOfPapers 56 = .ok (.getfield 166, 3) := by decide +kernel
theorem dX6_fateOfPapers_59 : decode cX6_fateOfPapers 59 = .ok (.iload_n 2, 1) := by decide +kernel
theorem dX6_fateOfPapers_60 : decode cX6_fateOfPapers 60 = .ok (.iaload, 1) := by decide +kernel
theorem dX6_fateOfPapers_61 : decode cX6_fateOfPapers 61 = .ok (.if_icmp .le 5, 3) := by decide +kernel
theorem dX6_fateOfPapers_64 : decode cX6_fateOfPapers 64 = .ok (.iconst 4, 1) := by decide +kernel
theorem dX6_fateOfPapers_65 : decode cX6_fateOfPapers 65 = .ok (.ireturn, 1) := by decide +kernel
theorem dX6_fateOfPapers_66 : decode cX6_fateOfPapers 66 = .ok (.aload_n 0, 1) := by decide +kernel
theorem dX6_fateOfPapers_67 : decode cX6_fateOfPapers 67 = .ok (.getfield 35, 3) := by decide +kernel
theorem dX6_fateOfPapers_70 : decode cX6_fateOfPapers 70 = .ok (.iload_n 1, 1) := by decide +kernel
theorem dX6_fateOfPapers_71 : decode cX6_fateOfPapers 71 = .ok (.aload_n 0, 1) := by decide +kernel
theorem dX6_fateOfPapers_72 : decode cX6_fateOfPapers 72 = .ok (.getfield 9, 3) := by decide +kernel
theorem dX6_fateOfPapers_75 : decode cX6_fateOfPapers 75 = .ok (.invokevirtual 169, 3) := by decide +kernel
theorem dX6_fateOfPapers_78 : decode cX6_fateOfPapers 78 = .ok (.ifCond .eq 30, 3) := by decide +kernel
theorem dX6_fateOfPapers_81 : decode cX6_fateOfPapers 81 = .ok (.aload_n 0, 1) := by decide +kernel
theorem dX6_fateOfPapers_82 : decode cX6_fateOfPapers 82 = .ok (.getfield 49, 3) := by decide +kernel
theorem dX6_fateOfPapers_85 : decode cX6_fateOfPapers 85 = .ok (.getfield 116, 3) := by decide +kernel
theorem dX6_fateOfPapers_88 : decode cX6_fateOfPapers 88 = .ok (.iload_n 2, 1) := by decide +kernel
theorem dX6_fateOfPapers_89 : decode cX6_fateOfPapers 89 = .ok (.iaload, 1) := by decide +kernel
theorem dX6_fateOfPapers_90 : decode cX6_fateOfPapers 90 = .ok (.ifCond .ne 5, 3) := by decide +kernel
theorem dX6_fateOfPapers_93 : decode cX6_fateOfPapers 93 = .ok (.iconst 3, 1) := by decide +kernel
theorem dX6_fateOfPapers_94 : decode cX6_fateOfPapers 94 = .ok (.ireturn, 1) := by decide +kernel
theorem dX6_fateOfPapers_95 : decode cX6_fateOfPapers 95 = .ok (.aload_n 0, 1) := by decide +kernel
theorem dX6_fateOfPapers_96 : decode cX6_fateOfPapers 96 = .ok (.getfield 49, 3) := by decide +kernel
theorem dX6_fateOfPapers_99 : decode cX6_fateOfPapers 99 = .ok (.getfield 116, 3) := by decide +kernel
theorem dX6_fateOfPapers_102 : decode cX6_fateOfPapers 102 = .ok (.iload_n 2, 1) := by decide +kernel
theorem dX6_fateOfPapers_103 : decode cX6_fateOfPapers 103 = .ok (.dup2, 1) := by decide +kernel
theorem dX6_fateOfPapers_104 : decode cX6_fateOfPapers 104 = .ok (.iaload, 1) := by decide +kernel
theorem dX6_fateOfPapers_105 : decode cX6_fateOfPapers 105 = .ok (.iconst 1, 1) := by decide +kernel
theorem dX6_fateOfPapers_106 : decode cX6_fateOfPapers 106 = .ok (.isub, 1) := by decide +kernel
theorem dX6_fateOfPapers_107 : decode cX6_fateOfPapers 107 = .ok (.iastore, 1) := by decide +kernel
theorem dX6_fateOfPapers_108 : decode cX6_fateOfPapers 108 = .ok (.iconst 1, 1) := by decide +kernel
theorem dX6_fateOfPapers_109 : decode cX6_fateOfPapers 109 = .ok (.ireturn, 1) := by decide +kernel
theorem dX6_book_0 : decode cX6_book 0 = .ok (.iload_n 3, 1) := by decide +kernel
theorem dX6_book_1 : decode cX6_book 1 = .ok (.iconst 2, 1) := by decide +kernel
theorem dX6_book_2 : decode cX6_book 2 = .ok (.if_icmp .ne 19, 3) := by decide +kernel
theorem dX6_book_5 : decode cX6_book 5 = .ok (.aload_n 0, 1) := by decide +kernel
theorem dX6_book_6 : decode cX6_book 6 = .ok (.getfield 35, 3) := by decide +kernel
theorem dX6_book_9 : decode cX6_book 9 = .ok (.getfield 172, 3) := by decide +kernel
theorem dX6_book_12 : decode cX6_book 12 = .ok (.iload_n 1, 1) := by decide +kernel
theorem dX6_book_13 : decode cX6_book 13 = .ok (.dup2, 1) := by decide +kernel
theorem dX6_book_14 : decode cX6_book 14 = .ok (.iaload, 1) := by decide +kernel
theorem dX6_book_15 : decode cX6_book 15 = .ok (.iload_n 2, 1) := by decide +kernel
theorem dX6_book_16 : decode cX6_book 16 = .ok (.iadd, 1) := by decide +kernel
theorem dX6_book_17 : decode cX6_book 17 = .ok (.iastore, 1) := by decide +kernel
theorem dX6_book_18 : decode cX6_book 18 = .ok (.goto 108, 3) := by decide +kernel
theorem dX6_book_21 : decode cX6_book 21 = .ok (.iload_n 3, 1) := by decide +kernel
theorem dX6_book_22 : decode cX6_book 22 = .ok (.iconst 1, 1) := by decide +kernel
theorem dX6_book_23 : decode cX6_book 23 = .ok (.if_icmp .ne 53, 3) := by decide +kernel
theorem dX6_book_26 : decode cX6_book 26 = .ok (.aload_n 0, 1) := by decide +kernel
theorem dX6_book_27 : decode cX6_book 27 = .ok (.getfield 35, 3) := by decide +kernel
theorem dX6_book_30 : decode cX6_book 30 = .ok (.getfield 175, 3) := by decide +kernel
theorem dX6_book_33 : decode cX6_book 33 = .ok (.iload_n 1, 1) := by decide +kernel
theorem dX6_book_34 : decode cX6_book 34 = .ok (.dup2, 1) := by decide +kernel
theorem dX6_book_35 : decode cX6_book 35 = .ok (.iaload, 1) := by decide +kernel
theorem dX6_book_36 : decode cX6_book 36 = .ok (.iload_n 2, 1) := by decide +kernel
theorem dX6_book_37 : decode cX6_book 37 = .ok (.iadd, 1) := by decide +kernel
theorem dX6_book_38 : decode cX6_book 38 = .ok (.iastore, 1) := by decide +kernel
theorem dX6_book_39 : decode cX6_book 39 = .ok (.aload_n 0, 1) := by decide +kernel
theorem dX6_book_40 : decode cX6_book 40 = .ok (.getfield 35, 3) := by decide +kernel
theorem dX6_book_43 : decode cX6_book 43 = .ok (.getfield 178, 3) := by decide +kernel
theorem dX6_book_46 : decode cX6_book 46 = .ok (.iload_n 1, 1) := by decide +kernel
theorem dX6_book_47 : decode cX6_book 47 = .ok (.dup2, 1) := by decide +kernel
theorem dX6_book_48 : decode cX6_book 48 = .ok (.iaload, 1) := by decide +kernel
theorem dX6_book_49 : decode cX6_book 49 = .ok (.iload_n 2, 1) := by decide +kernel
theorem dX6_book_50 : decode cX6_book 50 = .ok (.iadd, 1) := by decide +kernel
theorem dX6_book_51 : decode cX6_book 51 = .ok (.iastore, 1) := by decide +kernel
theorem dX6_book_52 : decode cX6_book 52 = .ok (.aload_n 0, 1) := by decide +kernel
theorem dX6_book_53 : decode cX6_book 53 = .ok (.getfield 49, 3) := by decide +kernel
theorem dX6_book_56 : decode cX6_book 56 = .ok (.getfield 181, 3) := by decide +kernel
theorem dX6_book_59 : decode cX6_book 59 = .ok (.aload_n 0, 1) := by decide +kernel
theorem dX6_book_60 : decode cX6_book 60 = .ok (.getfield 35, 3) := by decide +kernel
theorem dX6_book_63 : decode cX6_book 63 = .ok (.getfield 105, 3) := by decide +kernel
theorem dX6_book_66 : decode cX6_book 66 = .ok (.iload_n 1, 1) := by decide +kernel
theorem dX6_book_67 : decode cX6_book 67 = .ok (.iaload, 1) := by decide +kernel
theorem dX6_book_68 : decode cX6_book 68 = .ok (.dup2, 1) := by decide +kernel
theorem dX6_book_69 : decode cX6_book 69 = .ok (.iaload, 1) := by decide +kernel
theorem dX6_book_70 : decode cX6_book 70 = .ok (.iload_n 2, 1) := by decide +kernel
theorem dX6_book_71 : decode cX6_book 71 = .ok (.iadd, 1) := by decide +kernel
theorem dX6_book_72 : decode cX6_book 72 = .ok (.iastore, 1) := by decide +kernel
theorem dX6_book_73 : decode cX6_book 73 = .ok (.goto 53, 3) := by decide +kernel
theorem dX6_book_76 : decode cX6_book 76 = .ok (.iload_n 3, 1) := by decide +kernel
theorem dX6_book_77 : decode cX6_book 77 = .ok (.iconst 5, 1) := by decide +kernel
theorem dX6_book_78 : decode cX6_book 78 = .ok (.if_icmp .ne 27, 3) := by decide +kernel
theorem dX6_book_81 : decode cX6_book 81 = .ok (.aload_n 0, 1) := by decide +kernel
theorem dX6_book_82 : decode cX6_book 82 = .ok (.getfield 35, 3) := by decide +kernel
theorem dX6_book_85 : decode cX6_book 85 = .ok (.getfield 182, 3) := by decide +kernel
theorem dX6_book_88 : decode cX6_book 88 = .ok (.iload_n 1, 1) := by decide +kernel
theorem dX6_book_89 : decode cX6_book 89 = .ok (.dup2, 1) := by decide +kernel
theorem dX6_book_90 : decode cX6_book 90 = .ok (.iaload, 1) := by decide +kernel
theorem dX6_book_91 : decode cX6_book 91 = .ok (.iload_n 2, 1) := by decide +kernel
theorem dX6_book_92 : decode cX6_book 92 = .ok (.iadd, 1) := by decide +kernel
theorem dX6_book_93 : decode cX6_book 93 = .ok (.iastore, 1) := by decide +kernel
theorem dX6_book_94 : decode cX6_book 94 = .ok (.aload_n 0, 1) := by decide +kernel
theorem dX6_book_95 : decode cX6_book 95 = .ok (.getfield 35, 3) := by decide +kernel
theorem dX6_book_98 : decode cX6_book 98 = .ok (.iload_n 1, 1) := by decide +kernel
theorem dX6_book_99 : decode cX6_book 99 = .ok (.invokevirtual 185, 3) := by decide +kernel
theorem dX6_book_102 : decode cX6_book 102 = .ok (.goto 24, 3) := by decide +kernel
theorem dX6_book_105 : decode cX6_book 105 = .ok (.aload_n 0, 1) := by decide +kernel
theorem dX6_book_106 : decode cX6_book 106 = .ok (.getfield 35, 3) := by decide +kernel
theorem dX6_book_109 : decode cX6_book 109 = .ok (.getfield 189, 3) := by decide +kernel
theorem dX6_book_112 : decode cX6_book 112 = .ok (.iload_n 1, 1) := by decide +kernel
theorem dX6_book_113 : decode cX6_book 113 = .ok (.dup2, 1) := by decide +kernel
theorem dX6_book_114 : decode cX6_book 114 = .ok (.iaload, 1) := by decide +kernel
theorem dX6_book_115 : decode cX6_book 115 = .ok (.iload_n 2, 1) := by decide +kernel
theorem dX6_book_116 : decode cX6_book 116 = .ok (.iadd, 1) := by decide +kernel
theorem dX6_book_117 : decode cX6_book 117 = .ok (.iastore, 1) := by decide +kernel
theorem dX6_book_118 : decode cX6_book 118 = .ok (.aload_n 0, 1) := by decide +kernel
theorem dX6_book_119 : decode cX6_book 119 = .ok (.getfield 35, 3) := by decide +kernel
theorem dX6_book_122 : decode cX6_book 122 = .ok (.iload_n 1, 1) := by decide +kernel
theorem dX6_book_123 : decode cX6_book 123 = .ok (.invokevirtual 185, 3) := by decide +kernel
theorem dX6_book_126 : decode cX6_book 126 = .ok (.return_, 1) := by decide +kernel
theorem dX6_payTips_0 : decode cX6_payTips 0 = .ok (.iconst 0, 1) := by decide +kernel
theorem dX6_payTips_1 : decode cX6_payTips 1 = .ok (.istore_n 1, 1) := by decide +kernel
theorem dX6_payTips_2 : decode cX6_payTips 2 = .ok (.iload_n 1, 1) := by decide +kernel
theorem dX6_payTips_3 : decode cX6_payTips 3 = .ok (.aload_n 0, 1) := by decide +kernel
theorem dX6_payTips_4 : decode cX6_payTips 4 = .ok (.getfield 35, 3) := by decide +kernel
theorem dX6_payTips_7 : decode cX6_payTips 7 = .ok (.getfield 85, 3) := by decide +kernel
theorem dX6_payTips_10 : decode cX6_payTips 10 = .ok (.if_icmp .ge 44, 3) := by decide +kernel
theorem dX6_payTips_13 : decode cX6_payTips 13 = .ok (.aload_n 0, 1) := by decide +kernel
theorem dX6_payTips_14 : decode cX6_payTips 14 = .ok (.getfield 35, 3) := by decide +kernel
theorem dX6_payTips_17 : decode cX6_payTips 17 = .ok (.getfield 105, 3) := by decide +kernel
theorem dX6_payTips_20 : decode cX6_payTips 20 = .ok (.iload_n 1, 1) := by decide +kernel
theorem dX6_payTips_21 : decode cX6_payTips 21 = .ok (.iaload, 1) := by decide +kernel
theorem dX6_payTips_22 : decode cX6_payTips 22 = .ok (.istore_n 2, 1) := by decide +kernel
theorem dX6_payTips_23 : decode cX6_payTips 23 = .ok (.iload_n 2, 1) := by decide +kernel
theorem dX6_payTips_24 : decode cX6_payTips 24 = .ok (.iconst (-1), 1) := by decide +kernel
theorem dX6_payTips_25 : decode cX6_payTips 25 = .ok (.if_icmp .eq 23, 3) := by decide +kernel
theorem dX6_payTips_28 : decode cX6_payTips 28 = .ok (.aload_n 0, 1) := by decide +kernel
theorem dX6_payTips_29 : decode cX6_payTips 29 = .ok (.getfield 49, 3) := by decide +kernel
theorem dX6_payTips_32 : decode cX6_payTips 32 = .ok (.getfield 192, 3) := by decide +kernel
theorem dX6_payTips_35 : decode cX6_payTips 35 = .ok (.iload_n 2, 1) := by decide +kernel
theorem dX6_payTips_36 : decode cX6_payTips 36 = .ok (.dup2, 1) := by decide +kernel
theorem dX6_payTips_37 : decode cX6_payTips 37 = .ok (.iaload, 1) := by decide +kernel
theorem dX6_payTips_38 : decode cX6_payTips 38 = .ok (.aload_n 0, 1) := by decide +kernel
theorem dX6_payTips_39 : decode cX6_payTips 39 = .ok (.getfield 35, 3) := by decide +kernel
theorem dX6_payTips_42 : decode cX6_payTips 42 = .ok (.iload_n 1, 1) := by decide +kernel
theorem dX6_payTips_43 : decode cX6_payTips 43 = .ok (.invokevirtual 195, 3) := by decide +kernel
theorem dX6_payTips_46 : decode cX6_payTips 46 = .ok (.iadd, 1) := by decide +kernel
theorem dX6_payTips_47 : decode cX6_payTips 47 = .ok (.iastore, 1) := by decide +kernel
theorem dX6_payTips_48 : decode cX6_payTips 48 = .ok (.iinc 1 1, 3) := by decide +kernel
theorem dX6_payTips_51 : decode cX6_payTips 51 = .ok (.goto (-49), 3) := by decide +kernel
theorem dX6_payTips_54 : decode cX6_payTips 54 = .ok (.return_, 1) := by decide +kernel
theorem dX6_weightOn_0 : decode cX6_weightOn 0 = .ok (.iload_n 1, 1) := by decide +kernel
theorem dX6_weightOn_1 : decode cX6_weightOn 1 = .ok (.invokestatic 138, 3) := by decide +kernel
theorem dX6_weightOn_4 : decode cX6_weightOn 4 = .ok (.ifCond .eq 10, 3) := by decide +kernel
theorem dX6_weightOn_7 : decode cX6_weightOn 7 = .ok (.aload_n 0, 1) := by decide +kernel
theorem dX6_weightOn_8 : decode cX6_weightOn 8 = .ok (.getfield 18, 3) := by decide +kernel
theorem dX6_weightOn_11 : decode cX6_weightOn 11 = .ok (.goto 7, 3) := by decide +kernel
theorem dX6_weightOn_14 : decode cX6_weightOn 14 = .ok (.aload_n 0, 1) := by decide +kernel
theorem dX6_weightOn_15 : decode cX6_weightOn 15 = .ok (.getfield 15, 3) := by decide +kernel
theorem dX6_weightOn_18 : decode cX6_weightOn 18 = .ok (.ireturn, 1) := by decide +kernel
theorem dX6_isSunday_0 : decode cX6_isSunday 0 = .ok (.iload_n 0, 1) := by decide +kernel
theorem dX6_isSunday_1 : decode cX6_isSunday 1 = .ok (.bipush 7, 2) := by decide +kernel
theorem dX6_isSunday_3 : decode cX6_isSunday 3 = .ok (.irem, 1) := by decide +kernel
theorem dX6_isSunday_4 : decode cX6_isSunday 4 = .ok (.bipush 6, 2) := by decide +kernel
theorem dX6_isSunday_6 : decode cX6_isSunday 6 = .ok (.if_icmp .ne 7, 3) := by decide +kernel
theorem dX6_isSunday_9 : decode cX6_isSunday 9 = .ok (.iconst 1, 1) := by decide +kernel
theorem dX6_isSunday_10 : decode cX6_isSunday 10 = .ok (.goto 4, 3) := by decide +kernel
theorem dX6_isSunday_13 : decode cX6_isSunday 13 = .ok (.iconst 0, 1) := by decide +kernel
theorem dX6_isSunday_14 : decode cX6_isSunday 14 = .ok (.ireturn, 1) := by decide +kernel
theorem dX6_canReach_0 : decode cX6_canReach 0 = .ok (.aload_n 0, 1) := by decide +kernel
theorem dX6_canReach_1 : decode cX6_canReach 1 = .ok (.getfield 49, 3) := by decide +kernel
theorem dX6_canReach_4 : decode cX6_canReach 4 = .ok (.getfield 198, 3) := by decide +kernel
theorem dX6_canReach_7 : decode cX6_canReach 7 = .ok (.iload_n 1, 1) := by decide +kernel
theorem dX6_canReach_8 : decode cX6_canReach 8 = .ok (.iaload, 1) := by decide +kernel
theorem dX6_canReach_9 : decode cX6_canReach 9 = .ok (.ifCond .eq 24, 3) := by decide +kernel
theorem dX6_canReach_12 : decode cX6_canReach 12 = .ok (.aload_n 0, 1) := by decide +kernel
theorem dX6_canReach_13 : decode cX6_canReach 13 = .ok (.getfield 28, 3) := by decide +kernel
theorem dX6_canReach_16 : decode cX6_canReach 16 = .ok (.getfield 201, 3) := by decide +kernel
theorem dX6_canReach_19 : decode cX6_canReach 19 = .ok (.aload_n 0, 1) := by decide +kernel
theorem dX6_canReach_20 : decode cX6_canReach 20 = .ok (.getfield 35, 3) := by decide +kernel
theorem dX6_canReach_23 : decode cX6_canReach 23 = .ok (.getfield 204, 3) := by decide +kernel
theorem dX6_canReach_26 : decode cX6_canReach 26 = .ok (.iload_n 2, 1) := by decide +kernel
theorem dX6_canReach_27 : decode cX6_canReach 27 = .ok (.iaload, 1) := by decide +kernel
theorem dX6_canReach_28 : decode cX6_canReach 28 = .ok (.iaload, 1) := by decide +kernel
theorem dX6_canReach_29 : decode cX6_canReach 29 = .ok (.iconst 1, 1) := by decide +kernel
theorem dX6_canReach_30 : decode cX6_canReach 30 = .ok (.if_icmp .ne 7, 3) := by decide +kernel
theorem dX6_canReach_33 : decode cX6_canReach 33 = .ok (.iconst 1, 1) := by decide +kernel
theorem dX6_canReach_34 : decode cX6_canReach 34 = .ok (.goto 4, 3) := by decide +kernel
theorem dX6_canReach_37 : decode cX6_canReach 37 = .ok (.iconst 0, 1) := by decide +kernel
theorem dX6_canReach_38 : decode cX6_canReach 38 = .ok (.ireturn, 1) := by decide +kernel
theorem dX6_housesFrom_0 : decode cX6_housesFrom 0 = .ok (.iconst 0, 1) := by decide +kernel
theorem dX6_housesFrom_1 : decode cX6_housesFrom 1 = .ok (.istore_n 2, 1) := by decide +kernel
theorem dX6_housesFrom_2 : decode cX6_housesFrom 2 = .ok (.iconst 0, 1) := by decide +kernel
theorem dX6_housesFrom_3 : decode cX6_housesFrom 3 = .ok (.istore_n 3, 1) := by decide +kernel
theorem dX6_housesFrom_4 : decode cX6_housesFrom 4 = .ok (.iload_n 3, 1) := by decide +kernel
theorem dX6_housesFrom_5 : decode cX6_housesFrom 5 = .ok (.aload_n 0, 1) := by decide +kernel
theorem dX6_housesFrom_6 : decode cX6_housesFrom 6 = .ok (.getfield 35, 3) := by decide +kernel
theorem dX6_housesFrom_9 : decode cX6_housesFrom 9 = .ok (.getfield 85, 3) := by decide +kernel
theorem dX6_housesFrom_12 : decode cX6_housesFrom 12 = .ok (.if_icmp .ge 32, 3) := by decide +kernel
theorem dX6_housesFrom_15 : decode cX6_housesFrom 15 = .ok (.aload_n 0, 1) := by decide +kernel
theorem dX6_housesFrom_16 : decode cX6_housesFrom 16 = .ok (.getfield 28, 3) := by decide +kernel
theorem dX6_housesFrom_19 : decode cX6_housesFrom 19 = .ok (.aload_n 0, 1) := by decide +kernel
theorem dX6_housesFrom_20 : decode cX6_housesFrom 20 = .ok (.getfield 35, 3) := by decide +kernel
theorem dX6_housesFrom_23 : decode cX6_housesFrom 23 = .ok (.getfield 204, 3) := by decide +kernel
theorem dX6_housesFrom_26 : decode cX6_housesFrom 26 = .ok (.iload_n 3, 1) := by decide +kernel
theorem dX6_housesFrom_27 : decode cX6_housesFrom 27 = .ok (.iaload, 1) := by decide +kernel
theorem dX6_housesFrom_28 : decode cX6_housesFrom 28 = .ok (.iload_n 1, 1) := by decide +kernel
theorem dX6_housesFrom_29 : decode cX6_housesFrom 29 = .ok (.invokevirtual 207, 3) := by decide +kernel
theorem dX6_housesFrom_32 : decode cX6_housesFrom 32 = .ok (.ifCond .eq 6, 3) := by decide +kernel
theorem dX6_housesFrom_35 : decode cX6_housesFrom 35 = .ok (.iinc 2 1, 3) := by decide +kernel
theorem dX6_housesFrom_38 : decode cX6_housesFrom 38 = .ok (.iinc 3 1, 3) := by decide +kernel
theorem dX6_housesFrom_41 : decode cX6_housesFrom 41 = .ok (.goto (-37), 3) := by decide +kernel
theorem dX6_housesFrom_44 : decode cX6_housesFrom 44 = .ok (.iload_n 2, 1) := by decide +kernel
theorem dX6_housesFrom_45 : decode cX6_housesFrom 45 = .ok (.ireturn, 1) := by decide +kernel
theorem dX6_housesPaused_0 : decode cX6_housesPaused 0 = .ok (.iconst 0, 1) := by decide +kernel
theorem dX6_housesPaused_1 : decode cX6_housesPaused 1 = .ok (.istore_n 1, 1) := by decide +kernel
theorem dX6_housesPaused_2 : decode cX6_housesPaused 2 = .ok (.iconst 0, 1) := by decide +kernel
theorem dX6_housesPaused_3 : decode cX6_housesPaused 3 = .ok (.istore_n 2, 1) := by decide +kernel
theorem dX6_housesPaused_4 : decode cX6_housesPaused 4 = .ok (.iload_n 2, 1) := by decide +kernel
theorem dX6_housesPaused_5 : decode cX6_housesPaused 5 = .ok (.aload_n 0, 1) := by decide +kernel
theorem dX6_housesPaused_6 : decode cX6_housesPaused 6 = .ok (.getfield 35, 3) := by decide +kernel
theorem dX6_housesPaused_9 : decode cX6_housesPaused 9 = .ok (.getfield 85, 3) := by decide +kernel
theorem dX6_housesPaused_12 : decode cX6_housesPaused 12 = .ok (.if_icmp .ge 27, 3) := by decide +kernel
theorem dX6_housesPaused_15 : decode cX6_housesPaused 15 = .ok (.aload_n 0, 1) := by decide +kernel
theorem dX6_housesPaused_16 : decode cX6_housesPaused 16 = .ok (.getfield 42, 3) := by decide +kernel
theorem dX6_housesPaused_19 : decode cX6_housesPaused 19 = .ok (.iload_n 2, 1) := by decide +kernel
theorem dX6_housesPaused_20 : decode cX6_housesPaused 20 = .ok (.aload_n 0, 1) := by decide +kernel
theorem dX6_housesPaused_21 : decode cX6_housesPaused 21 = .ok (.getfield 9, 3) := by decide +kernel
theorem dX6_housesPaused_24 : decode cX6_housesPaused 24 = .ok (.invokevirtual 160, 3) := by decide +kernel
theorem dX6_housesPaused_27 : decode cX6_housesPaused 27 = .ok (.ifCond .eq 6, 3) := by decide +kernel
theorem dX6_housesPaused_30 : decode cX6_housesPaused 30 = .ok (.iinc 1 1, 3) := by decide +kernel
theorem dX6_housesPaused_33 : decode cX6_housesPaused 33 = .ok (.iinc 2 1, 3) := by decide +kernel
theorem dX6_housesPaused_36 : decode cX6_housesPaused 36 = .ok (.goto (-32), 3) := by decide +kernel
theorem dX6_housesPaused_39 : decode cX6_housesPaused 39 = .ok (.iload_n 1, 1) := by decide +kernel
theorem dX6_housesPaused_40 : decode cX6_housesPaused 40 = .ok (.ireturn, 1) := by decide +kernel
theorem dX7_init_0 : decode cX7_init 0 = .ok (.aload_n 0, 1) := by decide +kernel
theorem dX7_init_1 : decode cX7_init 1 = .ok (.invokespecial 3, 3) := by decide +kernel
theorem dX7_init_4 : decode cX7_init 4 = .ok (.aload_n 0, 1) := by decide +kernel
theorem dX7_init_5 : decode cX7_init 5 = .ok (.new 9, 3) := by decide +kernel
theorem dX7_init_8 : decode cX7_init 8 = .ok (.dup, 1) := by decide +kernel
theorem dX7_init_9 : decode cX7_init 9 = .ok (.invokespecial 11, 3) := by decide +kernel
theorem dX7_init_12 : decode cX7_init 12 = .ok (.putfield 12, 3) := by decide +kernel
theorem dX7_init_15 : decode cX7_init 15 = .ok (.aload_n 0, 1) := by decide +kernel
theorem dX7_init_16 : decode cX7_init 16 = .ok (.iconst 0, 1) := by decide +kernel
theorem dX7_init_17 : decode cX7_init 17 = .ok (.putfield 18, 3) := by decide +kernel
theorem dX7_init_20 : decode cX7_init 20 = .ok (.aload_n 0, 1) := by decide +kernel
theorem dX7_init_21 : decode cX7_init 21 = .ok (.iconst 0, 1) := by decide +kernel
theorem dX7_init_22 : decode cX7_init 22 = .ok (.putfield 22, 3) := by decide +kernel
theorem dX7_init_25 : decode cX7_init 25 = .ok (.aload_n 0, 1) := by decide +kernel
theorem dX7_init_26 : decode cX7_init 26 = .ok (.iconst 0, 1) := by decide +kernel
theorem dX7_init_27 : decode cX7_init 27 = .ok (.putfield 25, 3) := by decide +kernel
theorem dX7_init_30 : decode cX7_init 30 = .ok (.aload_n 0, 1) := by decide +kernel
theorem dX7_init_31 : decode cX7_init 31 = .ok (.iconst 0, 1) := by decide +kernel
theorem dX7_init_32 : decode cX7_init 32 = .ok (.putfield 28, 3) := by decide +kernel
theorem dX7_init_35 : decode cX7_init 35 = .ok (.return_, 1) := by decide +kernel
theorem dX7_run_0 : decode cX7_run 0 = .ok (.aload_n 0, 1) := by decide +kernel
theorem dX7_run_1 : decode cX7_run 1 = .ok (.getfield 12, 3) := by decide +kernel
theorem dX7_run_4 : decode cX7_run 4 = .ok (.aload_n 1, 1) := by decide +kernel
theorem dX7_run_5 : decode cX7_run 5 = .ok (.invokevirtual 31, 3) := by decide +kernel
theorem dX7_run_8 : decode cX7_run 8 = .ok (.aload_n 0, 1) := by decide +kernel
theorem dX7_run_9 : decode cX7_run 9 = .ok (.iconst 0, 1) := by decide +kernel
theorem dX7_run_10 : decode cX7_run 10 = .ok (.putfield 18, 3) := by decide +kernel
theorem dX7_run_13 : decode cX7_run 13 = .ok (.aload_n 0, 1) := by decide +kernel
theorem dX7_run_14 : decode cX7_run 14 = .ok (.iconst 0, 1) := by decide +kernel
theorem dX7_run_15 : decode cX7_run 15 = .ok (.putfield 22, 3) := by decide +kernel
theorem dX7_run_18 : decode cX7_run 18 = .ok (.aload_n 0, 1) := by decide +kernel
theorem dX7_run_19 : decode cX7_run 19 = .ok (.iconst 0, 1) := by decide +kernel
theorem dX7_run_20 : decode cX7_run 20 = .ok (.putfield 25, 3) := by decide +kernel
theorem dX7_run_23 : decode cX7_run 23 = .ok (.aload_n 0, 1) := by decide +kernel
theorem dX7_run_24 : decode cX7_run 24 = .ok (.iconst 0, 1) := by decide +kernel
theorem dX7_run_25 : decode cX7_run 25 = .ok (.putfield 28, 3) := by decide +kernel
theorem dX7_run_28 : decode cX7_run 28 = .ok (.aload_n 0, 1) := by decide +kernel
theorem dX7_run_29 : decode cX7_run 29 = .ok (.getfield 25, 3) := by decide +kernel
theorem dX7_run_32 : decode cX7_run 32 = .ok (.ifCond .ne 97, 3) := by decide +kernel
theorem dX7_run_35 : decode cX7_run 35 = .ok (.aload_n 0, 1) := by decide +kernel
theorem dX7_run_36 : decode cX7_run 36 = .ok (.getfield 22, 3) := by decide +kernel
theorem dX7_run_39 : decode cX7_run 39 = .ok (.aload_n 2, 1) := by decide +kernel
theorem dX7_run_40 : decode cX7_run 40 = .ok (.getfield 35, 3) := by decide +kernel
theorem dX7_run_43 : decode cX7_run 43 = .ok (.if_icmp .ge 86, 3) := by decide +kernel
theorem dX7_run_46 : decode cX7_run 46 = .ok (.aload_n 0, 1) := by decide +kernel
theorem dX7_run_47 : decode cX7_run 47 = .ok (.getfield 18, 3) := by decide +kernel
theorem dX7_run_50 : decode cX7_run 50 = .ok (.bipush 60, 2) := by decide +kernel
theorem dX7_run_52 : decode cX7_run 52 = .ok (.if_icmp .ge 77, 3) := by decide +kernel
theorem dX7_run_55 : decode cX7_run 55 = .ok (.aload_n 2, 1) := by decide +kernel
theorem dX7_run_56 : decode cX7_run 56 = .ok (.aload_n 0, 1) := by decide +kernel
theorem dX7_run_57 : decode cX7_run 57 = .ok (.getfield 22, 3) := by decide +kernel
theorem dX7_run_60 : decode cX7_run 60 = .ok (.invokevirtual 40, 3) := by decide +kernel
theorem dX7_run_63 : decode cX7_run 63 = .ok (.ifCond .ne 11, 3) := by decide +kernel
theorem dX7_run_66 : decode cX7_run 66 = .ok (.aload_n 0, 1) := by decide +kernel
theorem dX7_run_67 : decode cX7_run 67 = .ok (.iconst 1, 1) := by decide +kernel
theorem dX7_run_68 : decode cX7_run 68 = .ok (.putfield 25, 3) := by decide +kernel
theorem dX7_run_71 : decode cX7_run 71 = .ok (.goto (-43), 3) := by decide +kernel
theorem dX7_run_74 : decode cX7_run 74 = .ok (.aload_n 0, 1) := by decide +kernel
theorem dX7_run_75 : decode cX7_run 75 = .ok (.aload_n 2, 1) := by decide +kernel
theorem dX7_run_76 : decode cX7_run 76 = .ok (.getfield 44, 3) := by decide +kernel
theorem dX7_run_79 : decode cX7_run 79 = .ok (.aload_n 2, 1) := by decide +kernel
theorem dX7_run_80 : decode cX7_run 80 = .ok (.getfield 48, 3) := by decide +kernel
theorem dX7_run_83 : decode cX7_run 83 = .ok (.aload_n 3, 1) := by decide +kernel
theorem dX7_run_84 : decode cX7_run 84 = .ok (.invokevirtual 52, 3) := by decide +kernel
theorem dX7_run_87 : decode cX7_run 87 = .ok (.istore 4, 2) := by decide +kernel
theorem dX7_run_89 : decode cX7_run 89 = .ok (.iload 4, 2) := by decide +kernel
theorem dX7_run_91 : decode cX7_run 91 = .ok (.ifCond .ge 17, 3) := by decide +kernel
theorem dX7_run_94 : decode cX7_run 94 = .ok (.aload_n 0, 1) := by decide +kernel
theorem dX7_run_95 : decode cX7_run 95 = .ok (.iconst 2, 1) := by decide +kernel
theorem dX7_run_96 : decode cX7_run 96 = .ok (.putfield 25, 3) := by decide +kernel
theorem dX7_run_99 : decode cX7_run 99 = .ok (.aload_n 0, 1) := by decide +kernel
theorem dX7_run_100 : decode cX7_run 100 = .ok (.iload 4, 2) := by decide +kernel
theorem dX7_run_102 : decode cX7_run 102 = .ok (.putfield 28, 3) := by decide +kernel
theorem dX7_run_105 : decode cX7_run 105 = .ok (.goto 21, 3) := by decide +kernel
theorem dX7_run_108 : decode cX7_run 108 = .ok (.aload_n 0, 1) := by decide +kernel
theorem dX7_run_109 : decode cX7_run 109 = .ok (.dup, 1) := by decide +kernel
theorem dX7_run_110 : decode cX7_run 110 = .ok (.getfield 18, 3) := by decide +kernel
theorem dX7_run_113 : decode cX7_run 113 = .ok (.iconst 1, 1) := by decide +kernel
theorem dX7_run_114 : decode cX7_run 114 = .ok (.iadd, 1) := by decide +kernel
theorem dX7_run_115 : decode cX7_run 115 = .ok (.putfield 18, 3) := by decide +kernel
theorem dX7_run_118 : decode cX7_run 118 = .ok (.aload_n 0, 1) := by decide +kernel
theorem dX7_run_119 : decode cX7_run 119 = .ok (.aload_n 2, 1) := by decide +kernel
theorem dX7_run_120 : decode cX7_run 120 = .ok (.getfield 56, 3) := by decide +kernel
theorem dX7_run_123 : decode cX7_run 123 = .ok (.putfield 22, 3) := by decide +kernel
theorem dX7_run_126 : decode cX7_run 126 = .ok (.goto (-98), 3) := by decide +kernel
theorem dX7_run_129 : decode cX7_run 129 = .ok (.return_, 1) := by decide +kernel
theorem dX7_answerOf_0 : decode cX7_answerOf 0 = .ok (.iload_n 1, 1) := by decide +kernel
theorem dX7_answerOf_1 : decode cX7_answerOf 1 = .ok (.lookupswitch 99 #[(98, 85), (103, 60), (110, 74), (112, 43)], 43) := by decide +kernel
theorem dX7_answerOf_44 : decode cX7_answerOf 44 = .ok (.aload_n 0, 1) := by decide +kernel
theorem dX7_answerOf_45 : decode cX7_answerOf 45 = .ok (.getfield 12, 3) := by decide +kernel
theorem dX7_answerOf_48 : decode cX7_answerOf 48 = .ok (.aload_n 2, 1) := by decide +kernel
theorem dX7_answerOf_49 : decode cX7_answerOf 49 = .ok (.iconst 0, 1) := by decide +kernel
theorem dX7_answerOf_50 : decode cX7_answerOf 50 = .ok (.iaload, 1) := by decide +kernel
theorem dX7_answerOf_51 : decode cX7_answerOf 51 = .ok (.aload_n 2, 1) := by decide +kernel
theorem dX7_answerOf_52 : decode cX7_answerOf 52 = .ok (.iconst 1, 1) := by decide +kernel
theorem dX7_answerOf_53 : decode cX7_answerOf 53 = .ok (.iaload, 1) := by decide +kernel
theorem dX7_answerOf_54 : decode cX7_answerOf 54 = .ok (.aload_n 2, 1) := by decide +kernel
theorem dX7_answerOf_55 : decode cX7_answerOf 55 = .ok (.iconst 2, 1) := by decide +kernel
theorem dX7_answerOf_56 : decode cX7_answerOf 56 = .ok (.iaload, 1) := by decide +kernel
theorem dX7_answerOf_57 : decode cX7_answerOf 57 = .ok (.invokevirtual 59, 3) := by decide +kernel
theorem dX7_answerOf_60 : decode cX7_answerOf 60 = .ok (.ireturn, 1) := by decide +kernel
theorem dX7_answerOf_61 : decode cX7_answerOf 61 = .ok (.aload_n 0, 1) := by decide +kernel
theorem dX7_answerOf_62 : decode cX7_answerOf 62 = .ok (.getfield 12, 3) := by decide +kernel
theorem dX7_answerOf_65 : decode cX7_answerOf 65 = .ok (.aload_n 2, 1) := by decide +kernel
theorem dX7_answerOf_66 : decode cX7_answerOf 66 = .ok (.iconst 0, 1) := by decide +kernel
theorem dX7_answerOf_67 : decode cX7_answerOf 67 = .ok (.iaload, 1) := by decide +kernel
theorem dX7_answerOf_68 : decode cX7_answerOf 68 = .ok (.aload_n 2, 1) := by decide +kernel
theorem dX7_answerOf_69 : decode cX7_answerOf 69 = .ok (.iconst 1, 1) := by decide +kernel
theorem dX7_answerOf_70 : decode cX7_answerOf 70 = .ok (.iaload, 1) := by decide +kernel
theorem dX7_answerOf_71 : decode cX7_answerOf 71 = .ok (.invokevirtual 63, 3) := by decide +kernel
theorem dX7_answerOf_74 : decode cX7_answerOf 74 = .ok (.ireturn, 1) := by decide +kernel
theorem dX7_answerOf_75 : decode cX7_answerOf 75 = .ok (.aload_n 0, 1) := by decide +kernel
theorem dX7_answerOf_76 : decode cX7_answerOf 76 = .ok (.getfield 12, 3) := by decide +kernel
theorem dX7_answerOf_79 : decode cX7_answerOf 79 = .ok (.aload_n 2, 1) := by decide +kernel
theorem dX7_answerOf_80 : decode cX7_answerOf 80 = .ok (.iconst 0, 1) := by decide +kernel
theorem dX7_answerOf_81 : decode cX7_answerOf 81 = .ok (.iaload, 1) := by decide +kernel
theorem dX7_answerOf_82 : decode cX7_answerOf 82 = .ok (.invokevirtual 67, 3) := by decide +kernel
theorem dX7_answerOf_85 : decode cX7_answerOf 85 = .ok (.ireturn, 1) := by decide +kernel
theorem dX7_answerOf_86 : decode cX7_answerOf 86 = .ok (.aload_n 0, 1) := by decide +kernel
theorem dX7_answerOf_87 : decode cX7_answerOf 87 = .ok (.getfield 12, 3) := by decide +kernel
theorem dX7_answerOf_90 : decode cX7_answerOf 90 = .ok (.aload_n 2, 1) := by decide +kernel
theorem dX7_answerOf_91 : decode cX7_answerOf 91 = .ok (.iconst 0, 1) := by decide +kernel
theorem dX7_answerOf_92 : decode cX7_answerOf 92 = .ok (.iaload, 1) := by decide +kernel
theorem dX7_answerOf_93 : decode cX7_answerOf 93 = .ok (.aload_n 2, 1) := by decide +kernel
theorem dX7_answerOf_94 : decode cX7_answerOf 94 = .ok (.iconst 1, 1) := by decide +kernel
theorem dX7_answerOf_95 : decode cX7_answerOf 95 = .ok (.iaload, 1) := by decide +kernel
theorem dX7_answerOf_96 : decode cX7_answerOf 96 = .ok (.invokevirtual 71, 3) := by decide +kernel
theorem dX7_answerOf_99 : decode cX7_answerOf 99 = .ok (.ireturn, 1) := by decide +kernel
theorem dX7_answerOf_100 : decode cX7_answerOf 100 = .ok (.aload_n 0, 1) := by decide +kernel
theorem dX7_answerOf_101 : decode cX7_answerOf 101 = .ok (.getfield 12, 3) := by decide +kernel
theorem dX7_answerOf_104 : decode cX7_answerOf 104 = .ok (.aload_n 2, 1) := by decide +kernel
theorem dX7_answerOf_105 : decode cX7_answerOf 105 = .ok (.iconst 0, 1) := by decide +kernel
theorem dX7_answerOf_106 : decode cX7_answerOf 106 = .ok (.iaload, 1) := by decide +kernel
theorem dX7_answerOf_107 : decode cX7_answerOf 107 = .ok (.aload_n 3, 1) := by decide +kernel
theorem dX7_answerOf_108 : decode cX7_answerOf 108 = .ok (.invokevirtual 74, 3) := by decide +kernel
theorem dX7_answerOf_111 : decode cX7_answerOf 111 = .ok (.ireturn, 1) := by decide +kernel
theorem dX8_init_0 : decode cX8_init 0 = .ok (.aload_n 0, 1) := by decide +kernel
theorem dX8_init_1 : decode cX8_init 1 = .ok (.invokespecial 3, 3) := by decide +kernel
theorem dX8_init_4 : decode cX8_init 4 = .ok (.aload_n 0, 1) := by decide +kernel
theorem dX8_init_5 : decode cX8_init 5 = .ok (.iconst 0, 1) := by decide +kernel
theorem dX8_init_6 : decode cX8_init 6 = .ok (.putfield 9, 3) := by decide +kernel
theorem dX8_init_9 : decode cX8_init 9 = .ok (.aload_n 0, 1) := by decide +kernel
theorem dX8_init_10 : decode cX8_init 10 = .ok (.iconst 0, 1) := by decide +kernel
theorem dX8_init_11 : decode cX8_init 11 = .ok (.putfield 15, 3) := by decide +kernel
theorem dX8_init_14 : decode cX8_init 14 = .ok (.aload_n 0, 1) := by decide +kernel
theorem dX8_init_15 : decode cX8_init 15 = .ok (.iconst 0, 1) := by decide +kernel
theorem dX8_init_16 : decode cX8_init 16 = .ok (.putfield 18, 3) := by decide +kernel
theorem dX8_init_19 : decode cX8_init 19 = .ok (.aload_n 0, 1) := by decide +kernel
theorem dX8_init_20 : decode cX8_init 20 = .ok (.iconst 0, 1) := by decide +kernel
theorem dX8_init_21 : decode cX8_init 21 = .ok (.putfield 21, 3) := by decide +kernel
theorem dX8_init_24 : decode cX8_init 24 = .ok (.aload_n 0, 1) := by decide +kernel
theorem dX8_init_25 : decode cX8_init 25 = .ok (.iconst 0, 1) := by decide +kernel
theorem dX8_init_26 : decode cX8_init 26 = .ok (.putfield 24, 3) := by decide +kernel
theorem dX8_init_29 : decode cX8_init 29 = .ok (.aload_n 0, 1) := by decide +kernel
theorem dX8_init_30 : decode cX8_init 30 = .ok (.bipush 20, 2) := by decide +kernel
theorem dX8_init_32 : decode cX8_init 32 = .ok (.newarray .int, 2) := by decide +kernel
theorem dX8_init_34 : decode cX8_init 34 = .ok (.putfield 27, 3) := by decide +kernel
theorem dX8_init_37 : decode cX8_init 37 = .ok (.return_, 1) := by decide +kernel
theorem dX8_go_0 : decode cX8_go 0 = .ok (.aload_n 0, 1) := by decide +kernel
theorem dX8_go_1 : decode cX8_go 1 = .ok (.invokevirtual 31, 3) := by decide +kernel
theorem dX8_go_4 : decode cX8_go 4 = .ok (.aload_n 1, 1) := by decide +kernel
theorem dX8_go_5 : decode cX8_go 5 = .ok (.getfield 34, 3) := by decide +kernel
theorem dX8_go_8 : decode cX8_go 8 = .ok (.astore 5, 2) := by decide +kernel
theorem dX8_go_10 : decode cX8_go 10 = .ok (.aload_n 1, 1) := by decide +kernel
theorem dX8_go_11 : decode cX8_go 11 = .ok (.iload_n 3, 1) := by decide +kernel
theorem dX8_go_12 : decode cX8_go 12 = .ok (.invokevirtual 40, 3) := by decide +kernel
theorem dX8_go_15 : decode cX8_go 15 = .ok (.istore 6, 2) := by decide +kernel
theorem dX8_go_17 : decode cX8_go 17 = .ok (.aload_n 1, 1) := by decide +kernel
theorem dX8_go_18 : decode cX8_go 18 = .ok (.getfield 44, 3) := by decide +kernel
theorem dX8_go_21 : decode cX8_go 21 = .ok (.getfield 48, 3) := by decide +kernel
theorem dX8_go_24 : decode cX8_go 24 = .ok (.iload_n 2, 1) := by decide +kernel
theorem dX8_go_25 : decode cX8_go 25 = .ok (.iaload, 1) := by decide +kernel
theorem dX8_go_26 : decode cX8_go 26 = .ok (.istore 7, 2) := by decide +kernel
theorem dX8_go_28 : decode cX8_go 28 = .ok (.iconst 0, 1) := by decide +kernel
theorem dX8_go_29 : decode cX8_go 29 = .ok (.istore 8, 2) := by decide +kernel
theorem dX8_go_31 : decode cX8_go 31 = .ok (.iload 8, 2) := by decide +kernel
theorem dX8_go_33 : decode cX8_go 33 = .ok (.aload 5, 2) := by decide +kernel
theorem dX8_go_35 : decode cX8_go 35 = .ok (.getfield 53, 3) := by decide +kernel
theorem dX8_go_38 : decode cX8_go 38 = .ok (.if_icmp .ge 200, 3) := by decide +kernel
theorem dX8_go_41 : decode cX8_go 41 = .ok (.aload 5, 2) := by decide +kernel
theorem dX8_go_43 : decode cX8_go 43 = .ok (.getfield 58, 3) := by decide +kernel
theorem dX8_go_46 : decode cX8_go 46 = .ok (.iload 8, 2) := by decide +kernel
theorem dX8_go_48 : decode cX8_go 48 = .ok (.iaload, 1) := by decide +kernel
theorem dX8_go_49 : decode cX8_go 49 = .ok (.istore 9, 2) := by decide +kernel
theorem dX8_go_51 : decode cX8_go 51 = .ok (.aload 5, 2) := by decide +kernel
theorem dX8_go_53 : decode cX8_go 53 = .ok (.getfield 61, 3) := by decide +kernel
theorem dX8_go_56 : decode cX8_go 56 = .ok (.iload 9, 2) := by decide +kernel
theorem dX8_go_58 : decode cX8_go 58 = .ok (.iaload, 1) := by decide +kernel
theorem dX8_go_59 : decode cX8_go 59 = .ok (.iload 6, 2) := by decide +kernel
theorem dX8_go_61 : decode cX8_go 61 = .ok (.imul, 1) := by decide +kernel
theorem dX8_go_62 : decode cX8_go 62 = .ok (.istore 10, 2) := by decide +kernel
theorem dX8_go_64 : decode cX8_go 64 = .ok (.aload 5, 2) := by decide +kernel
theorem dX8_go_66 : decode cX8_go 66 = .ok (.getfield 63, 3) := by decide +kernel
theorem dX8_go_69 : decode cX8_go 69 = .ok (.iload 9, 2) := by decide +kernel
theorem dX8_go_71 : decode cX8_go 71 = .ok (.iaload, 1) := by decide +kernel
theorem dX8_go_72 : decode cX8_go 72 = .ok (.iload_n 2, 1) := by decide +kernel
theorem dX8_go_73 : decode cX8_go 73 = .ok (.if_icmp .eq 10, 3) := by decide +kernel
theorem dX8_go_76 : decode cX8_go 76 = .ok (.iload 9, 2) := by decide +kernel
theorem dX8_go_78 : decode cX8_go 78 = .ok (.iload 4, 2) := by decide +kernel
theorem dX8_go_80 : decode cX8_go 80 = .ok (.if_icmp .ne 7, 3) := by decide +kernel
theorem dX8_go_83 : decode cX8_go 83 = .ok (.iconst 1, 1) := by decide +kernel
theorem dX8_go_84 : decode cX8_go 84 = .ok (.goto 4, 3) := by decide +kernel
theorem dX8_go_87 : decode cX8_go 87 = .ok (.iconst 0, 1) := by decide +kernel
theorem dX8_go_88 : decode cX8_go 88 = .ok (.istore 11, 2) := by decide +kernel
theorem dX8_go_90 : decode cX8_go 90 = .ok (.iload 11, 2) := by decide +kernel
theorem dX8_go_92 : decode cX8_go 92 = .ok (.ifCond .eq 140, 3) := by decide +kernel
theorem dX8_go_95 : decode cX8_go 95 = .ok (.iload 10, 2) := by decide +kernel
theorem dX8_go_97 : decode cX8_go 97 = .ok (.iload 7, 2) := by decide +kernel
theorem dX8_go_99 : decode cX8_go 99 = .ok (.if_icmp .gt 133, 3) := by decide +kernel
theorem dX8_go_102 : decode cX8_go 102 = .ok (.aload_n 1, 1) := by decide +kernel
theorem dX8_go_103 : decode cX8_go 103 = .ok (.getfield 66, 3) := by decide +kernel
theorem dX8_go_106 : decode cX8_go 106 = .ok (.iload 9, 2) := by decide +kernel
theorem dX8_go_108 : decode cX8_go 108 = .ok (.iload_n 3, 1) := by decide +kernel
theorem dX8_go_109 : decode cX8_go 109 = .ok (.invokevirtual 70, 3) := by decide +kernel
theorem dX8_go_112 : decode cX8_go 112 = .ok (.ifCond .ne 120, 3) := by decide +kernel
theorem dX8_go_115 : decode cX8_go 115 = .ok (.aload_n 0, 1) := by decide +kernel
theorem dX8_go_116 : decode cX8_go 116 = .ok (.getfield 9, 3) := by decide +kernel
theorem dX8_go_119 : decode cX8_go 119 = .ok (.ifCond .eq 15, 3) := by decide +kernel
theorem dX8_go_122 : decode cX8_go 122 = .ok (.aload_n 0, 1) := by decide +kernel
theorem dX8_go_123 : decode cX8_go 123 = .ok (.getfield 24, 3) := by decide +kernel
theorem dX8_go_126 : decode cX8_go 126 = .ok (.iload 10, 2) := by decide +kernel
theorem dX8_go_128 : decode cX8_go 128 = .ok (.iadd, 1) := by decide +kernel
theorem dX8_go_129 : decode cX8_go 129 = .ok (.iload 7, 2) := by decide +kernel
theorem dX8_go_131 : decode cX8_go 131 = .ok (.if_icmp .le 30, 3) := by decide +kernel
theorem dX8_go_134 : decode cX8_go 134 = .ok (.aload_n 0, 1) := by decide +kernel
theorem dX8_go_135 : decode cX8_go 135 = .ok (.aload_n 1, 1) := by decide +kernel
theorem dX8_go_136 : decode cX8_go 136 = .ok (.getfield 76, 3) := by decide +kernel
theorem dX8_go_139 : decode cX8_go 139 = .ok (.aload_n 1, 1) := by decide +kernel
theorem dX8_go_140 : decode cX8_go 140 = .ok (.getfield 44, 3) := by decide +kernel
theorem dX8_go_143 : decode cX8_go 143 = .ok (.getfield 80, 3) := by decide +kernel
theorem dX8_go_146 : decode cX8_go 146 = .ok (.iload_n 2, 1) := by decide +kernel
theorem dX8_go_147 : decode cX8_go 147 = .ok (.iaload, 1) := by decide +kernel
theorem dX8_go_148 : decode cX8_go 148 = .ok (.invokevirtual 83, 3) := by decide +kernel
theorem dX8_go_151 : decode cX8_go 151 = .ok (.aload_n 0, 1) := by decide +kernel
theorem dX8_go_152 : decode cX8_go 152 = .ok (.dup, 1) := by decide +kernel
theorem dX8_go_153 : decode cX8_go 153 = .ok (.getfield 9, 3) := by decide +kernel
theorem dX8_go_156 : decode cX8_go 156 = .ok (.iconst 1, 1) := by decide +kernel
theorem dX8_go_157 : decode cX8_go 157 = .ok (.iadd, 1) := by decide +kernel
theorem dX8_go_158 : decode cX8_go 158 = .ok (.putfield 9, 3) := by decide +kernel
theorem dX8_go_161 : decode cX8_go 161 = .ok (.aload_n 0, 1) := by decide +kernel
theorem dX8_go_162 : decode cX8_go 162 = .ok (.dup, 1) := by decide +kernel
theorem dX8_go_163 : decode cX8_go 163 = .ok (.getfield 24, 3) := by decide +kernel
theorem dX8_go_166 : decode cX8_go 166 = .ok (.iload 10, 2) := by decide +kernel
theorem dX8_go_168 : decode cX8_go 168 = .ok (.iadd, 1) := by decide +kernel
theorem dX8_go_169 : decode cX8_go 169 = .ok (.putfield 24, 3) := by decide +kernel
theorem dX8_go_172 : decode cX8_go 172 = .ok (.aload_n 0, 1) := by decide +kernel
theorem dX8_go_173 : decode cX8_go 173 = .ok (.getfield 27, 3) := by decide +kernel
theorem dX8_go_176 : decode cX8_go 176 = .ok (.aload 5, 2) := by decide +kernel
theorem dX8_go_178 : decode cX8_go 178 = .ok (.getfield 87, 3) := by decide +kernel
theorem dX8_go_181 : decode cX8_go 181 = .ok (.iload 9, 2) := by decide +kernel
theorem dX8_go_183 : decode cX8_go 183 = .ok (.iaload, 1) := by decide +kernel
theorem dX8_go_184 : decode cX8_go 184 = .ok (.dup2, 1) := by decide +kernel
theorem dX8_go_185 : decode cX8_go 185 = .ok (.iaload, 1) := by decide +kernel
theorem dX8_go_186 : decode cX8_go 186 = .ok (.iload 10, 2) := by decide +kernel
theorem dX8_go_188 : decode cX8_go 188 = .ok (.iadd, 1) := by decide +kernel
theorem dX8_go_189 : decode cX8_go 189 = .ok (.iastore, 1) := by decide +kernel
theorem dX8_go_190 : decode cX8_go 190 = .ok (.aload_n 0, 1) := by decide +kernel
theorem dX8_go_191 : decode cX8_go 191 = .ok (.dup, 1) := by decide +kernel
theorem dX8_go_192 : decode cX8_go 192 = .ok (.getfield 18, 3) := by decide +kernel
theorem dX8_go_195 : decode cX8_go 195 = .ok (.aload 5, 2) := by decide +kernel
theorem dX8_go_197 : decode cX8_go 197 = .ok (.getfield 61, 3) := by decide +kernel
theorem dX8_go_200 : decode cX8_go 200 = .ok (.iload 9, 2) := by decide +kernel
theorem dX8_go_202 : decode cX8_go 202 = .ok (.iaload, 1) := by decide +kernel
theorem dX8_go_203 : decode cX8_go 203 = .ok (.iadd, 1) := by decide +kernel
theorem dX8_go_204 : decode cX8_go 204 = .ok (.putfield 18, 3) := by decide +kernel
theorem dX8_go_207 : decode cX8_go 207 = .ok (.aload_n 0, 1) := by decide +kernel
theorem dX8_go_208 : decode cX8_go 208 = .ok (.dup, 1) := by decide +kernel
theorem dX8_go_209 : decode cX8_go 209 = .ok (.getfield 21, 3) := by decide +kernel
theorem dX8_go_212 : decode cX8_go 212 = .ok (.aload 5, 2) := by decide +kernel
theorem dX8_go_214 : decode cX8_go 214 = .ok (.iload 9, 2) := by decide +kernel
theorem dX8_go_216 : decode cX8_go 216 = .ok (.iload_n 3, 1) := by decide +kernel
theorem dX8_go_217 : decode cX8_go 217 = .ok (.invokevirtual 90, 3) := by decide +kernel
theorem dX8_go_220 : decode cX8_go 220 = .ok (.ifCond .eq 7, 3) := by decide +kernel
theorem dX8_go_223 : decode cX8_go 223 = .ok (.iconst 1, 1) := by decide +kernel
theorem dX8_go_224 : decode cX8_go 224 = .ok (.goto 4, 3) := by decide +kernel
theorem dX8_go_227 : decode cX8_go 227 = .ok (.iconst 0, 1) := by decide +kernel
theorem dX8_go_228 : decode cX8_go 228 = .ok (.iadd, 1) := by decide +kernel
theorem dX8_go_229 : decode cX8_go 229 = .ok (.putfield 21, 3) := by decide +kernel
theorem dX8_go_232 : decode cX8_go 232 = .ok (.iinc 8 1, 3) := by decide +kernel
theorem dX8_go_235 : decode cX8_go 235 = .ok (.goto (-204), 3) := by decide +kernel
theorem dX8_go_238 : decode cX8_go 238 = .ok (.aload_n 0, 1) := by decide +kernel
theorem dX8_go_239 : decode cX8_go 239 = .ok (.aload_n 1, 1) := by decide +kernel
theorem dX8_go_240 : decode cX8_go 240 = .ok (.getfield 76, 3) := by decide +kernel
theorem dX8_go_243 : decode cX8_go 243 = .ok (.aload_n 1, 1) := by decide +kernel
theorem dX8_go_244 : decode cX8_go 244 = .ok (.getfield 44, 3) := by decide +kernel
theorem dX8_go_247 : decode cX8_go 247 = .ok (.getfield 80, 3) := by decide +kernel
theorem dX8_go_250 : decode cX8_go 250 = .ok (.iload_n 2, 1) := by decide +kernel
theorem dX8_go_251 : decode cX8_go 251 = .ok (.iaload, 1) := by decide +kernel
theorem dX8_go_252 : decode cX8_go 252 = .ok (.invokevirtual 83, 3) := by decide +kernel
theorem dX8_go_255 : decode cX8_go 255 = .ok (.return_, 1) := by decide +kernel
theorem dX8_clear_0 : decode cX8_clear 0 = .ok (.aload_n 0, 1) := by decide +kernel
theorem dX8_clear_1 : decode cX8_clear 1 = .ok (.iconst 0, 1) := by decide +kernel
theorem dX8_clear_2 : decode cX8_clear 2 = .ok (.putfield 9, 3) := by decide +kernel
theorem dX8_clear_5 : decode cX8_clear 5 = .ok (.aload_n 0, 1) := by decide +kernel
theorem dX8_clear_6 : decode cX8_clear 6 = .ok (.iconst 0, 1) := by decide +kernel
theorem dX8_clear_7 : decode cX8_clear 7 = .ok (.putfield 15, 3) := by decide +kernel
theorem dX8_clear_10 : decode cX8_clear 10 = .ok (.aload_n 0, 1) := by decide +kernel
theorem dX8_clear_11 : decode cX8_clear 11 = .ok (.iconst 0, 1) := by decide +kernel
theorem dX8_clear_12 : decode cX8_clear 12 = .ok (.putfield 18, 3) := by decide +kernel
theorem dX8_clear_15 : decode cX8_clear 15 = .ok (.aload_n 0, 1) := by decide +kernel
theorem dX8_clear_16 : decode cX8_clear 16 = .ok (.iconst 0, 1) := by decide +kernel
theorem dX8_clear_17 : decode cX8_clear 17 = .ok (.putfield 21, 3) := by decide +kernel
theorem dX8_clear_20 : decode cX8_clear 20 = .ok (.return_, 1) := by decide +kernel
theorem dX8_endTrip_0 : decode cX8_endTrip 0 = .ok (.aload_n 1, 1) := by decide +kernel
theorem dX8_endTrip_1 : decode cX8_endTrip 1 = .ok (.getfield 93, 3) := by decide +kernel
theorem dX8_endTrip_4 : decode cX8_endTrip 4 = .ok (.iconst 1, 1) := by decide +kernel
theorem dX8_endTrip_5 : decode cX8_endTrip 5 = .ok (.isub, 1) := by decide +kernel
theorem dX8_endTrip_6 : decode cX8_endTrip 6 = .ok (.istore_n 3, 1) := by decide +kernel
theorem dX8_endTrip_7 : decode cX8_endTrip 7 = .ok (.iload_n 3, 1) := by decide +kernel
theorem dX8_endTrip_8 : decode cX8_endTrip 8 = .ok (.ifCond .le 66, 3) := by decide +kernel
theorem dX8_endTrip_11 : decode cX8_endTrip 11 = .ok (.aload_n 0, 1) := by decide +kernel
theorem dX8_endTrip_12 : decode cX8_endTrip 12 = .ok (.getfield 27, 3) := by decide +kernel
theorem dX8_endTrip_15 : decode cX8_endTrip 15 = .ok (.iload_n 3, 1) := by decide +kernel
theorem dX8_endTrip_16 : decode cX8_endTrip 16 = .ok (.iaload, 1) := by decide +kernel
theorem dX8_endTrip_17 : decode cX8_endTrip 17 = .ok (.ifCond .le 51, 3) := by decide +kernel
theorem dX8_endTrip_20 : decode cX8_endTrip 20 = .ok (.aload_n 0, 1) := by decide +kernel
theorem dX8_endTrip_21 : decode cX8_endTrip 21 = .ok (.dup, 1) := by decide +kernel
theorem dX8_endTrip_22 : decode cX8_endTrip 22 = .ok (.getfield 15, 3) := by decide +kernel
theorem dX8_endTrip_25 : decode cX8_endTrip 25 = .ok (.aload_n 1, 1) := by decide +kernel
theorem dX8_endTrip_26 : decode cX8_endTrip 26 = .ok (.iload_n 3, 1) := by decide +kernel
theorem dX8_endTrip_27 : decode cX8_endTrip 27 = .ok (.aload_n 0, 1) := by decide +kernel
theorem dX8_endTrip_28 : decode cX8_endTrip 28 = .ok (.getfield 27, 3) := by decide +kernel
theorem dX8_endTrip_31 : decode cX8_endTrip 31 = .ok (.iload_n 3, 1) := by decide +kernel
theorem dX8_endTrip_32 : decode cX8_endTrip 32 = .ok (.iaload, 1) := by decide +kernel
theorem dX8_endTrip_33 : decode cX8_endTrip 33 = .ok (.iload_n 2, 1) := by decide +kernel
theorem dX8_endTrip_34 : decode cX8_endTrip 34 = .ok (.invokevirtual 96, 3) := by decide +kernel
theorem dX8_endTrip_37 : decode cX8_endTrip 37 = .ok (.iadd, 1) := by decide +kernel
theorem dX8_endTrip_38 : decode cX8_endTrip 38 = .ok (.putfield 15, 3) := by decide +kernel
theorem dX8_endTrip_41 : decode cX8_endTrip 41 = .ok (.aload_n 0, 1) := by decide +kernel
theorem dX8_endTrip_42 : decode cX8_endTrip 42 = .ok (.getfield 27, 3) := by decide +kernel
theorem dX8_endTrip_45 : decode cX8_endTrip 45 = .ok (.aload_n 1, 1) := by decide +kernel
theorem dX8_endTrip_46 : decode cX8_endTrip 46 = .ok (.getfield 100, 3) := by decide +kernel
theorem dX8_endTrip_49 : decode cX8_endTrip 49 = .ok (.iload_n 3, 1) := by decide +kernel
theorem dX8_endTrip_50 : decode cX8_endTrip 50 = .ok (.iaload, 1) := by decide +kernel
theorem dX8_endTrip_51 : decode cX8_endTrip 51 = .ok (.dup2, 1) := by decide +kernel
theorem dX8_endTrip_52 : decode cX8_endTrip 52 = .ok (.iaload, 1) := by decide +kernel
theorem dX8_endTrip_53 : decode cX8_endTrip 53 = .ok (.aload_n 0, 1) := by decide +kernel
theorem dX8_endTrip_54 : decode cX8_endTrip 54 = .ok (.getfield 27, 3) := by decide +kernel
theorem dX8_endTrip_57 : decode cX8_endTrip 57 = .ok (.iload_n 3, 1) := by decide +kernel
theorem dX8_endTrip_58 : decode cX8_endTrip 58 = .ok (.iaload, 1) := by decide +kernel
theorem dX8_endTrip_59 : decode cX8_endTrip 59 = .ok (.iadd, 1) := by decide +kernel
theorem dX8_endTrip_60 : decode cX8_endTrip 60 = .ok (.iastore, 1) := by decide +kernel
theorem dX8_endTrip_61 : decode cX8_endTrip 61 = .ok (.aload_n 0, 1) := by decide +kernel
theorem dX8_endTrip_62 : decode cX8_endTrip 62 = .ok (.getfield 27, 3) := by decide +kernel
theorem dX8_endTrip_65 : decode cX8_endTrip 65 = .ok (.iload_n 3, 1) := by decide +kernel
theorem dX8_endTrip_66 : decode cX8_endTrip 66 = .ok (.iconst 0, 1) := by decide +kernel
theorem dX8_endTrip_67 : decode cX8_endTrip 67 = .ok (.iastore, 1) := by decide +kernel
theorem dX8_endTrip_68 : decode cX8_endTrip 68 = .ok (.iinc 3 (-1), 3) := by decide +kernel
theorem dX8_endTrip_71 : decode cX8_endTrip 71 = .ok (.goto (-64), 3) := by decide +kernel
theorem dX8_endTrip_74 : decode cX8_endTrip 74 = .ok (.aload_n 0, 1) := by decide +kernel
theorem dX8_endTrip_75 : decode cX8_endTrip 75 = .ok (.getfield 27, 3) := by decide +kernel
theorem dX8_endTrip_78 : decode cX8_endTrip 78 = .ok (.iconst 0, 1) := by decide +kernel
theorem dX8_endTrip_79 : decode cX8_endTrip 79 = .ok (.iconst 0, 1) := by decide +kernel
theorem dX8_endTrip_80 : decode cX8_endTrip 80 = .ok (.iastore, 1) := by decide +kernel
theorem dX8_endTrip_81 : decode cX8_endTrip 81 = .ok (.aload_n 0, 1) := by decide +kernel
theorem dX8_endTrip_82 : decode cX8_endTrip 82 = .ok (.iconst 0, 1) := by decide +kernel
theorem dX8_endTrip_83 : decode cX8_endTrip 83 = .ok (.putfield 24, 3) := by decide +kernel
theorem dX8_endTrip_86 : decode cX8_endTrip 86 = .ok (.return_, 1) := by decide +kernel
theorem dX8_moreEffort_0 : decode cX8_moreEffort 0 = .ok (.aload_n 0, 1) := by decide +kernel
theorem dX8_moreEffort_1 : decode cX8_moreEffort 1 = .ok (.aload_n 1, 1) := by decide +kernel
theorem dX8_moreEffort_2 : decode cX8_moreEffort 2 = .ok (.iload_n 2, 1) := by decide +kernel
theorem dX8_moreEffort_3 : decode cX8_moreEffort 3 = .ok (.iload_n 3, 1) := by decide +kernel
theorem dX8_moreEffort_4 : decode cX8_moreEffort 4 = .ok (.iconst (-1), 1) := by decide +kernel
theorem dX8_moreEffort_5 : decode cX8_moreEffort 5 = .ok (.invokevirtual 103, 3) := by decide +kernel
theorem dX8_moreEffort_8 : decode cX8_moreEffort 8 = .ok (.aload_n 0, 1) := by decide +kernel
theorem dX8_moreEffort_9 : decode cX8_moreEffort 9 = .ok (.getfield 15, 3) := by decide +kernel
theorem dX8_moreEffort_12 : decode cX8_moreEffort 12 = .ok (.istore 5, 2) := by decide +kernel
theorem dX8_moreEffort_14 : decode cX8_moreEffort 14 = .ok (.aload_n 0, 1) := by decide +kernel
theorem dX8_moreEffort_15 : decode cX8_moreEffort 15 = .ok (.aload_n 1, 1) := by decide +kernel
theorem dX8_moreEffort_16 : decode cX8_moreEffort 16 = .ok (.iload_n 2, 1) := by decide +kernel
theorem dX8_moreEffort_17 : decode cX8_moreEffort 17 = .ok (.iload_n 3, 1) := by decide +kernel
theorem dX8_moreEffort_18 : decode cX8_moreEffort 18 = .ok (.iload 4, 2) := by decide +kernel
theorem dX8_moreEffort_20 : decode cX8_moreEffort 20 = .ok (.invokevirtual 103, 3) := by decide +kernel
theorem dX8_moreEffort_23 : decode cX8_moreEffort 23 = .ok (.aload_n 0, 1) := by decide +kernel
theorem dX8_moreEffort_24 : decode cX8_moreEffort 24 = .ok (.getfield 15, 3) := by decide +kernel
theorem dX8_moreEffort_27 : decode cX8_moreEffort 27 = .ok (.iload 5, 2) := by decide +kernel
theorem dX8_moreEffort_29 : decode cX8_moreEffort 29 = .ok (.isub, 1) := by decide +kernel
theorem dX8_moreEffort_30 : decode cX8_moreEffort 30 = .ok (.ireturn, 1) := by decide +kernel
theorem dX9_init_0 : decode cX9_init 0 = .ok (.aload_n 0, 1) := by decide +kernel
theorem dX9_init_1 : decode cX9_init 1 = .ok (.invokespecial 1, 3) := by decide +kernel
theorem dX9_init_4 : decode cX9_init 4 = .ok (.aload_n 0, 1) := by decide +kernel
theorem dX9_init_5 : decode cX9_init 5 = .ok (.new 7, 3) := by decide +kernel
theorem dX9_init_8 : decode cX9_init 8 = .ok (.dup, 1) := by decide +kernel
theorem dX9_init_9 : decode cX9_init 9 = .ok (.invokespecial 9, 3) := by decide +kernel
theorem dX9_init_12 : decode cX9_init 12 = .ok (.putfield 10, 3) := by decide +kernel
theorem dX9_init_15 : decode cX9_init 15 = .ok (.aload_n 0, 1) := by decide +kernel
theorem dX9_init_16 : decode cX9_init 16 = .ok (.new 16, 3) := by decide +kernel
theorem dX9_init_19 : decode cX9_init 19 = .ok (.dup, 1) := by decide +kernel
theorem dX9_init_20 : decode cX9_init 20 = .ok (.invokespecial 18, 3) := by decide +kernel
theorem dX9_init_23 : decode cX9_init 23 = .ok (.putfield 19, 3) := by decide +kernel
theorem dX9_init_26 : decode cX9_init 26 = .ok (.aload_n 0, 1) := by decide +kernel
theorem dX9_init_27 : decode cX9_init 27 = .ok (.new 23, 3) := by decide +kernel
theorem dX9_init_30 : decode cX9_init 30 = .ok (.dup, 1) := by decide +kernel
theorem dX9_init_31 : decode cX9_init 31 = .ok (.invokespecial 25, 3) := by decide +kernel
theorem dX9_init_34 : decode cX9_init 34 = .ok (.putfield 26, 3) := by decide +kernel
theorem dX9_init_37 : decode cX9_init 37 = .ok (.aload_n 0, 1) := by decide +kernel
theorem dX9_init_38 : decode cX9_init 38 = .ok (.new 30, 3) := by decide +kernel
theorem dX9_init_41 : decode cX9_init 41 = .ok (.dup, 1) := by decide +kernel
theorem dX9_init_42 : decode cX9_init 42 = .ok (.invokespecial 32, 3) := by decide +kernel
theorem dX9_init_45 : decode cX9_init 45 = .ok (.putfield 33, 3) := by decide +kernel
theorem dX9_init_48 : decode cX9_init 48 = .ok (.aload_n 0, 1) := by decide +kernel
theorem dX9_init_49 : decode cX9_init 49 = .ok (.new 37, 3) := by decide +kernel
theorem dX9_init_52 : decode cX9_init 52 = .ok (.dup, 1) := by decide +kernel
theorem dX9_init_53 : decode cX9_init 53 = .ok (.invokespecial 39, 3) := by decide +kernel
theorem dX9_init_56 : decode cX9_init 56 = .ok (.putfield 40, 3) := by decide +kernel
theorem dX9_init_59 : decode cX9_init 59 = .ok (.return_, 1) := by decide +kernel
theorem dX9_corner_0 : decode cX9_corner 0 = .ok (.aload_n 0, 1) := by decide +kernel
theorem dX9_corner_1 : decode cX9_corner 1 = .ok (.getfield 19, 3) := by decide +kernel
theorem dX9_corner_4 : decode cX9_corner 4 = .ok (.aload_n 0, 1) := by decide +kernel
theorem dX9_corner_5 : decode cX9_corner 5 = .ok (.getfield 10, 3) := by decide +kernel
theorem dX9_corner_8 : decode cX9_corner 8 = .ok (.invokevirtual 44, 3) := by decide +kernel
theorem dX9_corner_11 : decode cX9_corner 11 = .ok (.aload_n 0, 1) := by decide +kernel
theorem dX9_corner_12 : decode cX9_corner 12 = .ok (.aload_n 0, 1) := by decide +kernel
theorem dX9_corner_13 : decode cX9_corner 13 = .ok (.getfield 10, 3) := by decide +kernel
theorem dX9_corner_16 : decode cX9_corner 16 = .ok (.iload_n 1, 1) := by decide +kernel
theorem dX9_corner_17 : decode cX9_corner 17 = .ok (.iload_n 2, 1) := by decide +kernel
theorem dX9_corner_18 : decode cX9_corner 18 = .ok (.iload_n 3, 1) := by decide +kernel
theorem dX9_corner_19 : decode cX9_corner 19 = .ok (.iload 4, 2) := by decide +kernel
theorem dX9_corner_21 : decode cX9_corner 21 = .ok (.invokevirtual 48, 3) := by decide +kernel
theorem dX9_corner_24 : decode cX9_corner 24 = .ok (.invokevirtual 52, 3) := by decide +kernel
theorem dX9_corner_27 : decode cX9_corner 27 = .ok (.ireturn, 1) := by decide +kernel
theorem dX9_house_0 : decode cX9_house 0 = .ok (.aload_n 0, 1) := by decide +kernel
theorem dX9_house_1 : decode cX9_house 1 = .ok (.getfield 19, 3) := by decide +kernel
theorem dX9_house_4 : decode cX9_house 4 = .ok (.aload_n 0, 1) := by decide +kernel
theorem dX9_house_5 : decode cX9_house 5 = .ok (.getfield 10, 3) := by decide +kernel
theorem dX9_house_8 : decode cX9_house 8 = .ok (.invokevirtual 44, 3) := by decide +kernel
theorem dX9_house_11 : decode cX9_house 11 = .ok (.aload_n 0, 1) := by decide +kernel
theorem dX9_house_12 : decode cX9_house 12 = .ok (.aload_n 0, 1) := by decide +kernel
theorem dX9_house_13 : decode cX9_house 13 = .ok (.getfield 10, 3) := by decide +kernel
theorem dX9_house_16 : decode cX9_house 16 = .ok (.iload_n 1, 1) := by decide +kernel
theorem dX9_house_17 : decode cX9_house 17 = .ok (.iload_n 2, 1) := by decide +kernel
theorem dX9_house_18 : decode cX9_house 18 = .ok (.iload_n 3, 1) := by decide +kernel
theorem dX9_house_19 : decode cX9_house 19 = .ok (.invokevirtual 56, 3) := by decide +kernel
theorem dX9_house_22 : decode cX9_house 22 = .ok (.invokevirtual 52, 3) := by decide +kernel
theorem dX9_house_25 : decode cX9_house 25 = .ok (.ireturn, 1) := by decide +kernel
theorem dX9_dog_0 : decode cX9_dog 0 = .ok (.aload_n 0, 1) := by decide +kernel
theorem dX9_dog_1 : decode cX9_dog 1 = .ok (.getfield 19, 3) := by decide +kernel
theorem dX9_dog_4 : decode cX9_dog 4 = .ok (.aload_n 0, 1) := by decide +kernel
theorem dX9_dog_5 : decode cX9_dog 5 = .ok (.getfield 10, 3) := by decide +kernel
theorem dX9_dog_8 : decode cX9_dog 8 = .ok (.invokevirtual 44, 3) := by decide +kernel
theorem dX9_dog_11 : decode cX9_dog 11 = .ok (.aload_n 0, 1) := by decide +kernel
theorem dX9_dog_12 : decode cX9_dog 12 = .ok (.aload_n 0, 1) := by decide +kernel
theorem dX9_dog_13 : decode cX9_dog 13 = .ok (.getfield 10, 3) := by decide +kernel
theorem dX9_dog_16 : decode cX9_dog 16 = .ok (.iload_n 1, 1) := by decide +kernel
theorem dX9_dog_17 : decode cX9_dog 17 = .ok (.iload_n 2, 1) := by decide +kernel
theorem dX9_dog_18 : decode cX9_dog 18 = .ok (.iload_n 3, 1) := by decide +kernel
theorem dX9_dog_19 : decode cX9_dog 19 = .ok (.invokevirtual 60, 3) := by decide +kernel
theorem dX9_dog_22 : decode cX9_dog 22 = .ok (.invokevirtual 52, 3) := by decide +kernel
theorem dX9_dog_25 : decode cX9_dog 25 = .ok (.ireturn, 1) := by decide +kernel
theorem dX9_pause_0 : decode cX9_pause 0 = .ok (.aload_n 0, 1) := by decide +kernel
theorem dX9_pause_1 : decode cX9_pause 1 = .ok (.getfield 19, 3) := by decide +kernel
theorem dX9_pause_4 : decode cX9_pause 4 = .ok (.aload_n 0, 1) := by decide +kernel
theorem dX9_pause_5 : decode cX9_pause 5 = .ok (.getfield 10, 3) := by decide +kernel
theorem dX9_pause_8 : decode cX9_pause 8 = .ok (.invokevirtual 44, 3) := by decide +kernel
theorem dX9_pause_11 : decode cX9_pause 11 = .ok (.aload_n 0, 1) := by decide +kernel
theorem dX9_pause_12 : decode cX9_pause 12 = .ok (.aload_n 0, 1) := by decide +kernel
theorem dX9_pause_13 : decode cX9_pause 13 = .ok (.getfield 10, 3) := by decide +kernel
theorem dX9_pause_16 : decode cX9_pause 16 = .ok (.iload_n 1, 1) := by decide +kernel
theorem dX9_pause_17 : decode cX9_pause 17 = .ok (.iload_n 2, 1) := by decide +kernel
theorem dX9_pause_18 : decode cX9_pause 18 = .ok (.iload_n 3, 1) := by decide +kernel
theorem dX9_pause_19 : decode cX9_pause 19 = .ok (.invokevirtual 63, 3) := by decide +kernel
theorem dX9_pause_22 : decode cX9_pause 22 = .ok (.invokevirtual 52, 3) := by decide +kernel
theorem dX9_pause_25 : decode cX9_pause 25 = .ok (.ireturn, 1) := by decide +kernel
theorem dX9_carrier_0 : decode cX9_carrier 0 = .ok (.aload_n 0, 1) := by decide +kernel
theorem dX9_carrier_1 : decode cX9_carrier 1 = .ok (.getfield 19, 3) := by decide +kernel
theorem dX9_carrier_4 : decode cX9_carrier 4 = .ok (.aload_n 0, 1) := by decide +kernel
theorem dX9_carrier_5 : decode cX9_carrier 5 = .ok (.getfield 10, 3) := by decide +kernel
theorem dX9_carrier_8 : decode cX9_carrier 8 = .ok (.invokevirtual 44, 3) := by decide +kernel
theorem dX9_carrier_11 : decode cX9_carrier 11 = .ok (.aload_n 0, 1) := by decide +kernel
theorem dX9_carrier_12 : decode cX9_carrier 12 = .ok (.aload_n 0, 1) := by decide +kernel
theorem dX9_carrier_13 : decode cX9_carrier 13 = .ok (.getfield 10, 3) := by decide +kernel
theorem dX9_carrier_16 : decode cX9_carrier 16 = .ok (.iload_n 1, 1) := by decide +kernel
theorem dX9_carrier_17 : decode cX9_carrier 17 = .ok (.iload_n 2, 1) := by decide +kernel
theorem dX9_carrier_18 : decode cX9_carrier 18 = .ok (.invokevirtual 66, 3) := by decide +kernel
theorem dX9_carrier_21 : decode cX9_carrier 21 = .ok (.invokevirtual 52, 3) := by decide +kernel
theorem dX9_carrier_24 : decode cX9_carrier 24 = .ok (.ireturn, 1) := by decide +kernel
theorem dX9_give_0 : decode cX9_give 0 = .ok (.aload_n 0, 1) := by decide +kernel
theorem dX9_give_1 : decode cX9_give 1 = .ok (.getfield 19, 3) := by decide +kernel
theorem dX9_give_4 : decode cX9_give 4 = .ok (.aload_n 0, 1) := by decide +kernel
theorem dX9_give_5 : decode cX9_give 5 = .ok (.getfield 10, 3) := by decide +kernel
theorem dX9_give_8 : decode cX9_give 8 = .ok (.invokevirtual 44, 3) := by decide +kernel
theorem dX9_give_11 : decode cX9_give 11 = .ok (.aload_n 0, 1) := by decide +kernel
theorem dX9_give_12 : decode cX9_give 12 = .ok (.aload_n 0, 1) := by decide +kernel
theorem dX9_give_13 : decode cX9_give 13 = .ok (.getfield 10, 3) := by decide +kernel
theorem dX9_give_16 : decode cX9_give 16 = .ok (.iload_n 1, 1) := by decide +kernel
theorem dX9_give_17 : decode cX9_give 17 = .ok (.iload_n 2, 1) := by decide +kernel
theorem dX9_give_18 : decode cX9_give 18 = .ok (.invokevirtual 70, 3) := by decide +kernel
theorem dX9_give_21 : decode cX9_give 21 = .ok (.invokevirtual 52, 3) := by decide +kernel
theorem dX9_give_24 : decode cX9_give 24 = .ok (.ireturn, 1) := by decide +kernel
theorem dX9_giveNone_0 : decode cX9_giveNone 0 = .ok (.aload_n 0, 1) := by decide +kernel
theorem dX9_giveNone_1 : decode cX9_giveNone 1 = .ok (.getfield 19, 3) := by decide +kernel
theorem dX9_giveNone_4 : decode cX9_giveNone 4 = .ok (.aload_n 0, 1) := by decide +kernel
theorem dX9_giveNone_5 : decode cX9_giveNone 5 = .ok (.getfield 10, 3) := by decide +kernel
theorem dX9_giveNone_8 : decode cX9_giveNone 8 = .ok (.invokevirtual 44, 3) := by decide +kernel
theorem dX9_giveNone_11 : decode cX9_giveNone 11 = .ok (.aload_n 0, 1) := by decide +kernel
theorem dX9_giveNone_12 : decode cX9_giveNone 12 = .ok (.aload_n 0, 1) := by decide +kernel
theorem dX9_giveNone_13 : decode cX9_giveNone 13 = .ok (.getfield 10, 3) := by decide +kernel
theorem dX9_giveNone_16 : decode cX9_giveNone 16 = .ok (.iload_n 1, 1) := by decide +kernel
theorem dX9_giveNone_17 : decode cX9_giveNone 17 = .ok (.invokevirtual 73, 3) := by decide +kernel
theorem dX9_giveNone_20 : decode cX9_giveNone 20 = .ok (.invokevirtual 52, 3) := by decide +kernel
theorem dX9_giveNone_23 : decode cX9_giveNone 23 = .ok (.ireturn, 1) := by decide +kernel
theorem dX9_biscuits_0 : decode cX9_biscuits 0 = .ok (.aload_n 0, 1) := by decide +kernel
theorem dX9_biscuits_1 : decode cX9_biscuits 1 = .ok (.getfield 19, 3) := by decide +kernel
theorem dX9_biscuits_4 : decode cX9_biscuits 4 = .ok (.aload_n 0, 1) := by decide +kernel
theorem dX9_biscuits_5 : decode cX9_biscuits 5 = .ok (.getfield 10, 3) := by decide +kernel
theorem dX9_biscuits_8 : decode cX9_biscuits 8 = .ok (.invokevirtual 44, 3) := by decide +kernel
theorem dX9_biscuits_11 : decode cX9_biscuits 11 = .ok (.aload_n 0, 1) := by decide +kernel
theorem dX9_biscuits_12 : decode cX9_biscuits 12 = .ok (.aload_n 0, 1) := by decide +kernel
theorem dX9_biscuits_13 : decode cX9_biscuits 13 = .ok (.getfield 10, 3) := by decide +kernel
theorem dX9_biscuits_16 : decode cX9_biscuits 16 = .ok (.iload_n 1, 1) := by decide +kernel
theorem dX9_biscuits_17 : decode cX9_biscuits 17 = .ok (.iload_n 2, 1) := by decide +kernel
theorem dX9_biscuits_18 : decode cX9_biscuits 18 = .ok (.invokevirtual 76, 3) := by decide +kernel
theorem dX9_biscuits_21 : decode cX9_biscuits 21 = .ok (.invokevirtual 52, 3) := by decide +kernel
theorem dX9_biscuits_24 : decode cX9_biscuits 24 = .ok (.ireturn, 1) := by decide +kernel
theorem dX9_set_0 : decode cX9_set 0 = .ok (.aload_n 0, 1) := by decide +kernel
theorem dX9_set_1 : decode cX9_set 1 = .ok (.getfield 19, 3) := by decide +kernel
theorem dX9_set_4 : decode cX9_set 4 = .ok (.aload_n 0, 1) := by decide +kernel
theorem dX9_set_5 : decode cX9_set 5 = .ok (.getfield 10, 3) := by decide +kernel
theorem dX9_set_8 : decode cX9_set 8 = .ok (.invokevirtual 44, 3) := by decide +kernel
theorem dX9_set_11 : decode cX9_set 11 = .ok (.aload_n 0, 1) := by decide +kernel
theorem dX9_set_12 : decode cX9_set 12 = .ok (.aload_n 0, 1) := by decide +kernel
theorem dX9_set_13 : decode cX9_set 13 = .ok (.getfield 10, 3) := by decide +kernel
theorem dX9_set_16 : decode cX9_set 16 = .ok (.iload_n 1, 1) := by decide +kernel
theorem dX9_set_17 : decode cX9_set 17 = .ok (.iload_n 2, 1) := by decide +kernel
theorem dX9_set_18 : decode cX9_set 18 = .ok (.invokevirtual 79, 3) := by decide +kernel
theorem dX9_set_21 : decode cX9_set 21 = .ok (.invokevirtual 52, 3) := by decide +kernel
theorem dX9_set_24 : decode cX9_set 24 = .ok (.ireturn, 1) := by decide +kernel
theorem dX9_days_0 : decode cX9_days 0 = .ok (.aload_n 0, 1) := by decide +kernel
theorem dX9_days_1 : decode cX9_days 1 = .ok (.getfield 19, 3) := by decide +kernel
theorem dX9_days_4 : decode cX9_days 4 = .ok (.aload_n 0, 1) := by decide +kernel
theorem dX9_days_5 : decode cX9_days 5 = .ok (.getfield 10, 3) := by decide +kernel
theorem dX9_days_8 : decode cX9_days 8 = .ok (.invokevirtual 44, 3) := by decide +kernel
theorem dX9_days_11 : decode cX9_days 11 = .ok (.aload_n 0, 1) := by decide +kernel
theorem dX9_days_12 : decode cX9_days 12 = .ok (.aload_n 0, 1) := by decide +kernel
theorem dX9_days_13 : decode cX9_days 13 = .ok (.getfield 10, 3) := by decide +kernel
theorem dX9_days_16 : decode cX9_days 16 = .ok (.iload_n 1, 1) := by decide +kernel
theorem dX9_days_17 : decode cX9_days 17 = .ok (.aload_n 0, 1) := by decide +kernel
theorem dX9_days_18 : decode cX9_days 18 = .ok (.getfield 26, 3) := by decide +kernel
theorem dX9_days_21 : decode cX9_days 21 = .ok (.invokevirtual 82, 3) := by decide +kernel
theorem dX9_days_24 : decode cX9_days 24 = .ok (.invokevirtual 52, 3) := by decide +kernel
theorem dX9_days_27 : decode cX9_days 27 = .ok (.ireturn, 1) := by decide +kernel
theorem dX9_cornerOf_0 : decode cX9_cornerOf 0 = .ok (.aload_n 0, 1) := by decide +kernel
theorem dX9_cornerOf_1 : decode cX9_cornerOf 1 = .ok (.getfield 10, 3) := by decide +kernel
theorem dX9_cornerOf_4 : decode cX9_cornerOf 4 = .ok (.getfield 86, 3) := by decide +kernel
theorem dX9_cornerOf_7 : decode cX9_cornerOf 7 = .ok (.iload_n 1, 1) := by decide +kernel
theorem dX9_cornerOf_8 : decode cX9_cornerOf 8 = .ok (.invokevirtual 90, 3) := by decide +kernel
theorem dX9_cornerOf_11 : decode cX9_cornerOf 11 = .ok (.ifCond .eq 13, 3) := by decide +kernel
theorem dX9_cornerOf_14 : decode cX9_cornerOf 14 = .ok (.iload_n 2, 1) := by decide +kernel
theorem dX9_cornerOf_15 : decode cX9_cornerOf 15 = .ok (.iconst 0, 1) := by decide +kernel
theorem dX9_cornerOf_16 : decode cX9_cornerOf 16 = .ok (.bipush 6, 2) := by decide +kernel
theorem dX9_cornerOf_18 : decode cX9_cornerOf 18 = .ok (.invokestatic 96, 3) := by decide +kernel
theorem dX9_cornerOf_21 : decode cX9_cornerOf 21 = .ok (.ifCond .ne 5, 3) := by decide +kernel
theorem dX9_cornerOf_24 : decode cX9_cornerOf 24 = .ok (.iconst (-1), 1) := by decide +kernel
theorem dX9_cornerOf_25 : decode cX9_cornerOf 25 = .ok (.ireturn, 1) := by decide +kernel
theorem dX9_cornerOf_26 : decode cX9_cornerOf 26 = .ok (.iload_n 1, 1) := by decide +kernel
theorem dX9_cornerOf_27 : decode cX9_cornerOf 27 = .ok (.ifCond .ne 20, 3) := by decide +kernel
theorem dX9_cornerOf_30 : decode cX9_cornerOf 30 = .ok (.iload_n 2, 1) := by decide +kernel
theorem dX9_cornerOf_31 : decode cX9_cornerOf 31 = .ok (.ifCond .eq 13, 3) := by decide +kernel
theorem dX9_cornerOf_34 : decode cX9_cornerOf 34 = .ok (.iload_n 2, 1) := by decide +kernel
theorem dX9_cornerOf_35 : decode cX9_cornerOf 35 = .ok (.iconst 1, 1) := by decide +kernel
theorem dX9_cornerOf_36 : decode cX9_cornerOf 36 = .ok (.if_icmp .eq 8, 3) := by decide +kernel
theorem dX9_cornerOf_39 : decode cX9_cornerOf 39 = .ok (.iload_n 2, 1) := by decide +kernel
theorem dX9_cornerOf_40 : decode cX9_cornerOf 40 = .ok (.iconst 3, 1) := by decide +kernel
theorem dX9_cornerOf_41 : decode cX9_cornerOf 41 = .ok (.if_icmp .ne 6, 3) := by decide +kernel
theorem dX9_cornerOf_44 : decode cX9_cornerOf 44 = .ok (.bipush (-4), 2) := by decide +kernel
theorem dX9_cornerOf_46 : decode cX9_cornerOf 46 = .ok (.ireturn, 1) := by decide +kernel
theorem dX9_cornerOf_47 : decode cX9_cornerOf 47 = .ok (.aload_n 0, 1) := by decide +kernel
theorem dX9_cornerOf_48 : decode cX9_cornerOf 48 = .ok (.getfield 10, 3) := by decide +kernel
theorem dX9_cornerOf_51 : decode cX9_cornerOf 51 = .ok (.getfield 86, 3) := by decide +kernel
theorem dX9_cornerOf_54 : decode cX9_cornerOf 54 = .ok (.astore_n 3, 1) := by decide +kernel
theorem dX9_cornerOf_55 : decode cX9_cornerOf 55 = .ok (.iload_n 2, 1) := by decide +kernel
theorem dX9_cornerOf_56 : decode cX9_cornerOf 56 = .ok (.tableswitch 84 0 5 #[40, 47, 54, 61, 68, 75], 40) := by decide +kernel
theorem dX9_cornerOf_96 : decode cX9_cornerOf 96 = .ok (.aload_n 3, 1) := by decide +kernel
theorem dX9_cornerOf_97 : decode cX9_cornerOf 97 = .ok (.getfield 100, 3) := by decide +kernel
theorem dX9_cornerOf_100 : decode cX9_cornerOf 100 = .ok (.iload_n 1, 1) := by decide +kernel
theorem dX9_cornerOf_101 : decode cX9_cornerOf 101 = .ok (.iaload, 1) := by decide +kernel
theorem dX9_cornerOf_102 : decode cX9_cornerOf 102 = .ok (.ireturn, 1) := by decide +kernel
theorem dX9_cornerOf_103 : decode cX9_cornerOf 103 = .ok (.aload_n 3, 1) := by decide +kernel
theorem dX9_cornerOf_104 : decode cX9_cornerOf 104 = .ok (.getfield 104, 3) := by decide +kernel
theorem dX9_cornerOf_107 : decode cX9_cornerOf 107 = .ok (.iload_n 1, 1) := by decide +kernel
theorem dX9_cornerOf_108 : decode cX9_cornerOf 108 = .ok (.iaload, 1) := by decide +kernel
theorem dX9_cornerOf_109 : decode cX9_cornerOf 109 = .ok (.ireturn, 1) := by decide +kernel
theorem dX9_cornerOf_110 : decode cX9_cornerOf 110 = .ok (.aload_n 3, 1) := by decide +kernel
theorem dX9_cornerOf_111 : decode cX9_cornerOf 111 = .ok (.getfield 107, 3) := by decide +kernel
theorem dX9_cornerOf_114 : decode cX9_cornerOf 114 = .ok (.iload_n 1, 1) := by decide +kernel
theorem dX9_cornerOf_115 : decode cX9_cornerOf 115 = .ok (.iaload, 1) := by decide +kernel
theorem dX9_cornerOf_116 : decode cX9_cornerOf 116 = .ok (.ireturn, 1) := by decide +kernel
theorem dX9_cornerOf_117 : decode cX9_cornerOf 117 = .ok (.aload_n 3, 1) := by decide +kernel
theorem dX9_cornerOf_118 : decode cX9_cornerOf 118 = .ok (.getfield 110, 3) := by decide +kernel
theorem dX9_cornerOf_121 : decode cX9_cornerOf 121 = .ok (.iload_n 1, 1) := by decide +kernel
theorem dX9_cornerOf_122 : decode cX9_cornerOf 122 = .ok (.iaload, 1) := by decide +kernel
theorem dX9_cornerOf_123 : decode cX9_cornerOf 123 = .ok (.ireturn, 1) := by decide +kernel
theorem dX9_cornerOf_124 : decode cX9_cornerOf 124 = .ok (.aload_n 3, 1) := by decide +kernel
theorem dX9_cornerOf_125 : decode cX9_cornerOf 125 = .ok (.getfield 113, 3) := by decide +kernel
theorem dX9_cornerOf_128 : decode cX9_cornerOf 128 = .ok (.iload_n 1, 1) := by decide +kernel
theorem dX9_cornerOf_129 : decode cX9_cornerOf 129 = .ok (.iaload, 1) := by decide +kernel
theorem dX9_cornerOf_130 : decode cX9_cornerOf 130 = .ok (.ireturn, 1) := by decide +kernel
theorem dX9_cornerOf_131 : decode cX9_cornerOf 131 = .ok (.aload_n 0, 1) := by decide +kernel
theorem dX9_cornerOf_132 : decode cX9_cornerOf 132 = .ok (.getfield 10, 3) := by decide +kernel
theorem dX9_cornerOf_135 : decode cX9_cornerOf 135 = .ok (.iload_n 1, 1) := by decide +kernel
theorem dX9_cornerOf_136 : decode cX9_cornerOf 136 = .ok (.invokevirtual 116, 3) := by decide +kernel
theorem dX9_cornerOf_139 : decode cX9_cornerOf 139 = .ok (.ireturn, 1) := by decide +kernel
theorem dX9_cornerOf_140 : decode cX9_cornerOf 140 = .ok (.aload_n 3, 1) := by decide +kernel
theorem dX9_cornerOf_141 : decode cX9_cornerOf 141 = .ok (.getfield 119, 3) := by decide +kernel
theorem dX9_cornerOf_144 : decode cX9_cornerOf 144 = .ok (.iload_n 1, 1) := by decide +kernel
theorem dX9_cornerOf_145 : decode cX9_cornerOf 145 = .ok (.iaload, 1) := by decide +kernel
theorem dX9_cornerOf_146 : decode cX9_cornerOf 146 = .ok (.ireturn, 1) := by decide +kernel
theorem dX9_houseOf_0 : decode cX9_houseOf 0 = .ok (.aload_n 0, 1) := by decide +kernel
theorem dX9_houseOf_1 : decode cX9_houseOf 1 = .ok (.getfield 10, 3) := by decide +kernel
theorem dX9_houseOf_4 : decode cX9_houseOf 4 = .ok (.getfield 122, 3) := by decide +kernel
theorem dX9_houseOf_7 : decode cX9_houseOf 7 = .ok (.astore_n 3, 1) := by decide +kernel
theorem dX9_houseOf_8 : decode cX9_houseOf 8 = .ok (.aload_n 3, 1) := by decide +kernel
theorem dX9_houseOf_9 : decode cX9_houseOf 9 = .ok (.iload_n 1, 1) := by decide +kernel
theorem dX9_houseOf_10 : decode cX9_houseOf 10 = .ok (.invokevirtual 126, 3) := by decide +kernel
theorem dX9_houseOf_13 : decode cX9_houseOf 13 = .ok (.ifCond .eq 13, 3) := by decide +kernel
theorem dX9_houseOf_16 : decode cX9_houseOf 16 = .ok (.iload_n 2, 1) := by decide +kernel
theorem dX9_houseOf_17 : decode cX9_houseOf 17 = .ok (.iconst 0, 1) := by decide +kernel
theorem dX9_houseOf_18 : decode cX9_houseOf 18 = .ok (.bipush 11, 2) := by decide +kernel
theorem dX9_houseOf_20 : decode cX9_houseOf 20 = .ok (.invokestatic 96, 3) := by decide +kernel
theorem dX9_houseOf_23 : decode cX9_houseOf 23 = .ok (.ifCond .ne 5, 3) := by decide +kernel
theorem dX9_houseOf_26 : decode cX9_houseOf 26 = .ok (.iconst (-1), 1) := by decide +kernel
theorem dX9_houseOf_27 : decode cX9_houseOf 27 = .ok (.ireturn, 1) := by decide +kernel
theorem dX9_houseOf_28 : decode cX9_houseOf 28 = .ok (.iload_n 2, 1) := by decide +kernel
theorem dX9_houseOf_29 : decode cX9_houseOf 29 = .ok (.tableswitch 185 0 10 #[59, 66, 73, 80, 102, 123, 150, 157, 164, 171, 178], 59) := by decide +kernel
theorem dX9_houseOf_88 : decode cX9_houseOf 88 = .ok (.aload_n 3, 1) := by decide +kernel
theorem dX9_houseOf_89 : decode cX9_houseOf 89 = .ok (.getfield 129, 3) := by decide +kernel
theorem dX9_houseOf_92 : decode cX9_houseOf 92 = .ok (.iload_n 1, 1) := by decide +kernel
theorem dX9_houseOf_93 : decode cX9_houseOf 93 = .ok (.iaload, 1) := by decide +kernel
theorem dX9_houseOf_94 : decode cX9_houseOf 94 = .ok (.ireturn, 1) := by decide +kernel
theorem dX9_houseOf_95 : decode cX9_houseOf 95 = .ok (.aload_n 3, 1) := by decide +kernel
theorem dX9_houseOf_96 : decode cX9_houseOf 96 = .ok (.getfield 132, 3) := by decide +kernel
theorem dX9_houseOf_99 : decode cX9_houseOf 99 = .ok (.iload_n 1, 1) := by decide +kernel
theorem dX9_houseOf_100 : decode cX9_houseOf 100 = .ok (.iaload, 1) := by decide +kernel
theorem dX9_houseOf_101 : decode cX9_houseOf 101 = .ok (.ireturn, 1) := by decide +kernel
theorem dX9_houseOf_102 : decode cX9_houseOf 102 = .ok (.aload_n 3, 1) := by decide +kernel
theorem dX9_houseOf_103 : decode cX9_houseOf 103 = .ok (.getfield 135, 3) := by decide +kernel
theorem dX9_houseOf_106 : decode cX9_houseOf 106 = .ok (.iload_n 1, 1) := by decide +kernel
theorem dX9_houseOf_107 : decode cX9_houseOf 107 = .ok (.iaload, 1) := by decide +kernel
theorem dX9_houseOf_108 : decode cX9_houseOf 108 = .ok (.ireturn, 1) := by decide +kernel
theorem dX9_houseOf_109 : decode cX9_houseOf 109 = .ok (.aload_n 3, 1) := by decide +kernel
theorem dX9_houseOf_110 : decode cX9_houseOf 110 = .ok (.getfield 138, 3) := by decide +kernel
theorem dX9_houseOf_113 : decode cX9_houseOf 113 = .ok (.iload_n 1, 1) := by decide +kernel
theorem dX9_houseOf_114 : decode cX9_houseOf 114 = .ok (.iaload, 1) := by decide +kernel
theorem dX9_houseOf_115 : decode cX9_houseOf 115 = .ok (.iconst (-1), 1) := by decide +kernel
theorem dX9_houseOf_116 : decode cX9_houseOf 116 = .ok (.if_icmp .ne 8, 3) := by decide +kernel
theorem dX9_houseOf_119 : decode cX9_houseOf 119 = .ok (.bipush (-4), 2) := by decide +kernel
theorem dX9_houseOf_121 : decode cX9_houseOf 121 = .ok (.goto 9, 3) := by decide +kernel
theorem dX9_houseOf_124 : decode cX9_houseOf 124 = .ok (.aload_n 3, 1) := by decide +kernel
theorem dX9_houseOf_125 : decode cX9_houseOf 125 = .ok (.getfield 138, 3) := by decide +kernel
theorem dX9_houseOf_128 : decode cX9_houseOf 128 = .ok (.iload_n 1, 1) := by decide +kernel
theorem dX9_houseOf_129 : decode cX9_houseOf 129 = .ok (.iaload, 1) := by decide +kernel
theorem dX9_houseOf_130 : decode cX9_houseOf 130 = .ok (.ireturn, 1) := by decide +kernel
theorem dX9_houseOf_131 : decode cX9_houseOf 131 = .ok (.aload_n 3, 1) := by decide +kernel
theorem dX9_houseOf_132 : decode cX9_houseOf 132 = .ok (.getfield 141, 3) := by decide +kernel
theorem dX9_houseOf_135 : decode cX9_houseOf 135 = .ok (.iload_n 1, 1) := by decide +kernel
theorem dX9_houseOf_136 : decode cX9_houseOf 136 = .ok (.iaload, 1) := by decide +kernel
theorem dX9_houseOf_137 : decode cX9_houseOf 137 = .ok (.ifCond .ne 8, 3) := by decide +kernel
theorem dX9_houseOf_140 : decode cX9_houseOf 140 = .ok (.bipush (-4), 2) := by decide +kernel
theorem dX9_houseOf_142 : decode cX9_houseOf 142 = .ok (.goto 9, 3) := by decide +kernel
theorem dX9_houseOf_145 : decode cX9_houseOf 145 = .ok (.aload_n 3, 1) := by decide +kernel
theorem dX9_houseOf_146 : decode cX9_houseOf 146 = .ok (.getfield 141, 3) := by decide +kernel
theorem dX9_houseOf_149 : decode cX9_houseOf 149 = .ok (.iload_n 1, 1) := by decide +kernel
theorem dX9_houseOf_150 : decode cX9_houseOf 150 = .ok (.iaload, 1) := by decide +kernel
theorem dX9_houseOf_151 : decode cX9_houseOf 151 = .ok (.ireturn, 1) := by decide +kernel
theorem dX9_houseOf_152 : decode cX9_houseOf 152 = .ok (.aload_n 0, 1) := by decide +kernel
theorem dX9_houseOf_153 : decode cX9_houseOf 153 = .ok (.getfield 10, 3) := by decide +kernel
theorem dX9_houseOf_156 : decode cX9_houseOf 156 = .ok (.getfield 144, 3) := by decide +kernel
theorem dX9_houseOf_159 : decode cX9_houseOf 159 = .ok (.iload_n 1, 1) := by decide +kernel
theorem dX9_houseOf_160 : decode cX9_houseOf 160 = .ok (.aload_n 0, 1) := by decide +kernel
theorem dX9_houseOf_161 : decode cX9_houseOf 161 = .ok (.getfield 10, 3) := by decide +kernel
theorem dX9_houseOf_164 : decode cX9_houseOf 164 = .ok (.getfield 148, 3) := by decide +kernel
theorem dX9_houseOf_167 : decode cX9_houseOf 167 = .ok (.invokevirtual 152, 3) := by decide +kernel
theorem dX9_houseOf_170 : decode cX9_houseOf 170 = .ok (.ifCond .eq 7, 3) := by decide +kernel
theorem dX9_houseOf_173 : decode cX9_houseOf 173 = .ok (.iconst 1, 1) := by decide +kernel
theorem dX9_houseOf_174 : decode cX9_houseOf 174 = .ok (.goto 4, 3) := by decide +kernel
theorem dX9_houseOf_177 : decode cX9_houseOf 177 = .ok (.iconst 0, 1) := by decide +kernel
theorem dX9_houseOf_178 : decode cX9_houseOf 178 = .ok (.ireturn, 1) := by decide +kernel
theorem dX9_houseOf_179 : decode cX9_houseOf 179 = .ok (.aload_n 3, 1) := by decide +kernel
theorem dX9_houseOf_180 : decode cX9_houseOf 180 = .ok (.getfield 158, 3) := by decide +kernel
theorem dX9_houseOf_183 : decode cX9_houseOf 183 = .ok (.iload_n 1, 1) := by decide +kernel
theorem dX9_houseOf_184 : decode cX9_houseOf 184 = .ok (.iaload, 1) := by decide +kernel
theorem dX9_houseOf_185 : decode cX9_houseOf 185 = .ok (.ireturn, 1) := by decide +kernel
theorem dX9_houseOf_186 : decode cX9_houseOf 186 = .ok (.aload_n 3, 1) := by decide +kernel
theorem dX9_houseOf_187 : decode cX9_houseOf 187 = .ok (.getfield 161, 3) := by decide +kernel
theorem dX9_houseOf_190 : decode cX9_houseOf 190 = .ok (.iload_n 1, 1) := by decide +kernel
theorem dX9_houseOf_191 : decode cX9_houseOf 191 = .ok (.iaload, 1) := by decide +kernel
theorem dX9_houseOf_192 : decode cX9_houseOf 192 = .ok (.ireturn, 1) := by decide +kernel
theorem dX9_houseOf_193 : decode cX9_houseOf 193 = .ok (.aload_n 3, 1) := by decide +kernel
theorem dX9_houseOf_194 : decode cX9_houseOf 194 = .ok (.getfield 164, 3) := by decide +kernel
theorem dX9_houseOf_197 : decode cX9_houseOf 197 = .ok (.iload_n 1, 1) := by decide +kernel
theorem dX9_houseOf_198 : decode cX9_houseOf 198 = .ok (.iaload, 1) := by decide +kernel
theorem dX9_houseOf_199 : decode cX9_houseOf 199 = .ok (.ireturn, 1) := by decide +kernel
theorem dX9_houseOf_200 : decode cX9_houseOf 200 = .ok (.aload_n 3, 1) := by decide +kernel
theorem dX9_houseOf_201 : decode cX9_houseOf 201 = .ok (.getfield 167, 3) := by decide +kernel
theorem dX9_houseOf_204 : decode cX9_houseOf 204 = .ok (.iload_n 1, 1) := by decide +kernel
theorem dX9_houseOf_205 : decode cX9_houseOf 205 = .ok (.iaload, 1) := by decide +kernel
theorem dX9_houseOf_206 : decode cX9_houseOf 206 = .ok (.ireturn, 1) := by decide +kernel
theorem dX9_houseOf_207 : decode cX9_houseOf 207 = .ok (.aload_n 3, 1) := by decide +kernel
theorem dX9_houseOf_208 : decode cX9_houseOf 208 = .ok (.getfield 170, 3) := by decide +kernel
theorem dX9_houseOf_211 : decode cX9_houseOf 211 = .ok (.iload_n 1, 1) := by decide +kernel
theorem dX9_houseOf_212 : decode cX9_houseOf 212 = .ok (.iaload, 1) := by decide +kernel
theorem dX9_houseOf_213 : decode cX9_houseOf 213 = .ok (.ireturn, 1) := by decide +kernel
theorem dX9_houseOf_214 : decode cX9_houseOf 214 = .ok (.aload_n 3, 1) := by decide +kernel
theorem dX9_houseOf_215 : decode cX9_houseOf 215 = .ok (.getfield 173, 3) := by decide +kernel
theorem dX9_houseOf_218 : decode cX9_houseOf 218 = .ok (.iload_n 1, 1) := by decide +kernel
theorem dX9_houseOf_219 : decode cX9_houseOf 219 = .ok (.iaload, 1) := by decide +kernel
theorem dX9_houseOf_220 : decode cX9_houseOf 220 = .ok (.ireturn, 1) := by decide +kernel
theorem dX9_shareBits_0 : decode cX9_shareBits 0 = .ok (.aload_n 0, 1) := by decide +kernel
theorem dX9_shareBits_1 : decode cX9_shareBits 1 = .ok (.getfield 10, 3) := by decide +kernel
theorem dX9_shareBits_4 : decode cX9_shareBits 4 = .ok (.getfield 122, 3) := by decide +kernel
theorem dX9_shareBits_7 : decode cX9_shareBits 7 = .ok (.iload_n 1, 1) := by decide +kernel
theorem dX9_shareBits_8 : decode cX9_shareBits 8 = .ok (.invokevirtual 126, 3) := by decide +kernel
theorem dX9_shareBits_11 : decode cX9_shareBits 11 = .ok (.ifCond .ne 5, 3) := by decide +kernel
theorem dX9_shareBits_14 : decode cX9_shareBits 14 = .ok (.iconst (-1), 1) := by decide +kernel
theorem dX9_shareBits_15 : decode cX9_shareBits 15 = .ok (.ireturn, 1) := by decide +kernel
theorem dX9_shareBits_16 : decode cX9_shareBits 16 = .ok (.aload_n 0, 1) := by decide +kernel
theorem dX9_shareBits_17 : decode cX9_shareBits 17 = .ok (.getfield 10, 3) := by decide +kernel
theorem dX9_shareBits_20 : decode cX9_shareBits 20 = .ok (.getfield 122, 3) := by decide +kernel
theorem dX9_shareBits_23 : decode cX9_shareBits 23 = .ok (.iload_n 1, 1) := by decide +kernel
theorem dX9_shareBits_24 : decode cX9_shareBits 24 = .ok (.invokevirtual 176, 3) := by decide +kernel
theorem dX9_shareBits_27 : decode cX9_shareBits 27 = .ok (.ifCond .ne 6, 3) := by decide +kernel
theorem dX9_shareBits_30 : decode cX9_shareBits 30 = .ok (.bipush (-4), 2) := by decide +kernel
theorem dX9_shareBits_32 : decode cX9_shareBits 32 = .ok (.ireturn, 1) := by decide +kernel
theorem dX9_shareBits_33 : decode cX9_shareBits 33 = .ok (.aload_n 0, 1) := by decide +kernel
theorem dX9_shareBits_34 : decode cX9_shareBits 34 = .ok (.getfield 10, 3) := by decide +kernel
theorem dX9_shareBits_37 : decode cX9_shareBits 37 = .ok (.getfield 122, 3) := by decide +kernel
theorem dX9_shareBits_40 : decode cX9_shareBits 40 = .ok (.iload_n 1, 1) := by decide +kernel
theorem dX9_shareBits_41 : decode cX9_shareBits 41 = .ok (.invokevirtual 179, 3) := by decide +kernel
theorem dX9_shareBits_44 : decode cX9_shareBits 44 = .ok (.invokestatic 183, 3) := by decide +kernel
theorem dX9_shareBits_47 : decode cX9_shareBits 47 = .ok (.ireturn, 1) := by decide +kernel
theorem dX9_meanBits_0 : decode cX9_meanBits 0 = .ok (.dconst 0, 1) := by decide +kernel
theorem dX9_meanBits_1 : decode cX9_meanBits 1 = .ok (.dstore_n 1, 1) := by decide +kernel
theorem dX9_meanBits_2 : decode cX9_meanBits 2 = .ok (.iconst 0, 1) := by decide +kernel
theorem dX9_meanBits_3 : decode cX9_meanBits 3 = .ok (.istore_n 3, 1) := by decide +kernel
theorem dX9_meanBits_4 : decode cX9_meanBits 4 = .ok (.iconst 0, 1) := by decide +kernel
theorem dX9_meanBits_5 : decode cX9_meanBits 5 = .ok (.istore 4, 2) := by decide +kernel
theorem dX9_meanBits_7 : decode cX9_meanBits 7 = .ok (.iload 4, 2) := by decide +kernel
theorem dX9_meanBits_9 : decode cX9_meanBits 9 = .ok (.aload_n 0, 1) := by decide +kernel
theorem dX9_meanBits_10 : decode cX9_meanBits 10 = .ok (.getfield 10, 3) := by decide +kernel
theorem dX9_meanBits_13 : decode cX9_meanBits 13 = .ok (.getfield 122, 3) := by decide +kernel
theorem dX9_meanBits_16 : decode cX9_meanBits 16 = .ok (.getfield 187, 3) := by decide +kernel
theorem dX9_meanBits_19 : decode cX9_meanBits 19 = .ok (.if_icmp .ge 43, 3) := by decide +kernel
theorem dX9_meanBits_22 : decode cX9_meanBits 22 = .ok (.aload_n 0, 1) := by decide +kernel
theorem dX9_meanBits_23 : decode cX9_meanBits 23 = .ok (.getfield 10, 3) := by decide +kernel
theorem dX9_meanBits_26 : decode cX9_meanBits 26 = .ok (.getfield 122, 3) := by decide +kernel
theorem dX9_meanBits_29 : decode cX9_meanBits 29 = .ok (.iload 4, 2) := by decide +kernel
theorem dX9_meanBits_31 : decode cX9_meanBits 31 = .ok (.invokevirtual 176, 3) := by decide +kernel
theorem dX9_meanBits_34 : decode cX9_meanBits 34 = .ok (.ifCond .le 22, 3) := by decide +kernel
theorem dX9_meanBits_37 : decode cX9_meanBits 37 = .ok (.dload_n 1, 1) := by decide +kernel
theorem dX9_meanBits_38 : decode cX9_meanBits 38 = .ok (.aload_n 0, 1) := by decide +kernel
theorem dX9_meanBits_39 : decode cX9_meanBits 39 = .ok (.getfield 10, 3) := by decide +kernel
theorem dX9_meanBits_42 : decode cX9_meanBits 42 = .ok (.getfield 122, 3) := by decide +kernel
theorem dX9_meanBits_45 : decode cX9_meanBits 45 = .ok (.iload 4, 2) := by decide +kernel
theorem dX9_meanBits_47 : decode cX9_meanBits 47 = .ok (.invokevirtual 179, 3) := by decide +kernel
theorem dX9_meanBits_50 : decode cX9_meanBits 50 = .ok (.f2d, 1) := by decide +kernel
theorem dX9_meanBits_51 : decode cX9_meanBits 51 = .ok (.dadd, 1) := by decide +kernel
theorem dX9_meanBits_52 : decode cX9_meanBits 52 = .ok (.dstore_n 1, 1) := by decide +kernel
theorem dX9_meanBits_53 : decode cX9_meanBits 53 = .ok (.iinc 3 1, 3) := by decide +kernel
theorem dX9_meanBits_56 : decode cX9_meanBits 56 = .ok (.iinc 4 1, 3) := by decide +kernel
theorem dX9_meanBits_59 : decode cX9_meanBits 59 = .ok (.goto (-52), 3) := by decide +kernel
theorem dX9_meanBits_62 : decode cX9_meanBits 62 = .ok (.iload_n 3, 1) := by decide +kernel
theorem dX9_meanBits_63 : decode cX9_meanBits 63 = .ok (.ifCond .ne 6, 3) := by decide +kernel
theorem dX9_meanBits_66 : decode cX9_meanBits 66 = .ok (.bipush (-4), 2) := by decide +kernel
theorem dX9_meanBits_68 : decode cX9_meanBits 68 = .ok (.ireturn, 1) := by decide +kernel
theorem dX9_meanBits_69 : decode cX9_meanBits 69 = .ok (.dload_n 1, 1) := by decide +kernel
theorem dX9_meanBits_70 : decode cX9_meanBits 70 = .ok (.iload_n 3, 1) := by decide +kernel
theorem dX9_meanBits_71 : decode cX9_meanBits 71 = .ok (.i2d, 1) := by decide +kernel
theorem dX9_meanBits_72 : decode cX9_meanBits 72 = .ok (.ddiv, 1) := by decide +kernel
theorem dX9_meanBits_73 : decode cX9_meanBits 73 = .ok (.d2f, 1) := by decide +kernel
theorem dX9_meanBits_74 : decode cX9_meanBits 74 = .ok (.invokestatic 183, 3) := by decide +kernel
theorem dX9_meanBits_77 : decode cX9_meanBits 77 = .ok (.ireturn, 1) := by decide +kernel
theorem dX9_carrierOf_0 : decode cX9_carrierOf 0 = .ok (.aload_n 0, 1) := by decide +kernel
theorem dX9_carrierOf_1 : decode cX9_carrierOf 1 = .ok (.getfield 10, 3) := by decide +kernel
theorem dX9_carrierOf_4 : decode cX9_carrierOf 4 = .ok (.getfield 190, 3) := by decide +kernel
theorem dX9_carrierOf_7 : decode cX9_carrierOf 7 = .ok (.astore_n 3, 1) := by decide +kernel
theorem dX9_carrierOf_8 : decode cX9_carrierOf 8 = .ok (.aload_n 3, 1) := by decide +kernel
theorem dX9_carrierOf_9 : decode cX9_carrierOf 9 = .ok (.iload_n 1, 1) := by decide +kernel
theorem dX9_carrierOf_10 : decode cX9_carrierOf 10 = .ok (.invokevirtual 194, 3) := by decide +kernel
theorem dX9_carrierOf_13 : decode cX9_carrierOf 13 = .ok (.ifCond .eq 13, 3) := by decide +kernel
theorem dX9_carrierOf_16 : decode cX9_carrierOf 16 = .ok (.iload_n 2, 1) := by decide +kernel
theorem dX9_carrierOf_17 : decode cX9_carrierOf 17 = .ok (.iconst 0, 1) := by decide +kernel
theorem dX9_carrierOf_18 : decode cX9_carrierOf 18 = .ok (.bipush 7, 2) := by decide +kernel
theorem dX9_carrierOf_20 : decode cX9_carrierOf 20 = .ok (.invokestatic 96, 3) := by decide +kernel
theorem dX9_carrierOf_23 : decode cX9_carrierOf 23 = .ok (.ifCond .ne 5, 3) := by decide +kernel
theorem dX9_carrierOf_26 : decode cX9_carrierOf 26 = .ok (.iconst (-1), 1) := by decide +kernel
theorem dX9_carrierOf_27 : decode cX9_carrierOf 27 = .ok (.ireturn, 1) := by decide +kernel
theorem dX9_carrierOf_28 : decode cX9_carrierOf 28 = .ok (.iload_n 2, 1) := by decide +kernel
theorem dX9_carrierOf_29 : decode cX9_carrierOf 29 = .ok (.tableswitch 97 0 6 #[43, 50, 57, 64, 76, 83, 90], 43) := by decide +kernel
theorem dX9_carrierOf_72 : decode cX9_carrierOf 72 = .ok (.aload_n 3, 1) := by decide +kernel
theorem dX9_carrierOf_73 : decode cX9_carrierOf 73 = .ok (.getfield 197, 3) := by decide +kernel
theorem dX9_carrierOf_76 : decode cX9_carrierOf 76 = .ok (.iload_n 1, 1) := by decide +kernel
theorem dX9_carrierOf_77 : decode cX9_carrierOf 77 = .ok (.iaload, 1) := by decide +kernel
theorem dX9_carrierOf_78 : decode cX9_carrierOf 78 = .ok (.ireturn, 1) := by decide +kernel
theorem dX9_carrierOf_79 : decode cX9_carrierOf 79 = .ok (.aload_n 3, 1) := by decide +kernel
theorem dX9_carrierOf_80 : decode cX9_carrierOf 80 = .ok (.getfield 200, 3) := by decide +kernel
theorem dX9_carrierOf_83 : decode cX9_carrierOf 83 = .ok (.iload_n 1, 1) := by decide +kernel
theorem dX9_carrierOf_84 : decode cX9_carrierOf 84 = .ok (.iaload, 1) := by decide +kernel
theorem dX9_carrierOf_85 : decode cX9_carrierOf 85 = .ok (.ireturn, 1) := by decide +kernel
theorem dX9_carrierOf_86 : decode cX9_carrierOf 86 = .ok (.aload_n 3, 1) := by decide +kernel
theorem dX9_carrierOf_87 : decode cX9_carrierOf 87 = .ok (.getfield 203, 3) := by decide +kernel
theorem dX9_carrierOf_90 : decode cX9_carrierOf 90 = .ok (.iload_n 1, 1) := by decide +kernel
theorem dX9_carrierOf_91 : decode cX9_carrierOf 91 = .ok (.iaload, 1) := by decide +kernel
theorem dX9_carrierOf_92 : decode cX9_carrierOf 92 = .ok (.ireturn, 1) := by decide +kernel
theorem dX9_carrierOf_93 : decode cX9_carrierOf 93 = .ok (.aload_n 0, 1) := by decide +kernel
theorem dX9_carrierOf_94 : decode cX9_carrierOf 94 = .ok (.getfield 10, 3) := by decide +kernel
theorem dX9_carrierOf_97 : decode cX9_carrierOf 97 = .ok (.getfield 122, 3) := by decide +kernel
theorem dX9_carrierOf_100 : decode cX9_carrierOf 100 = .ok (.iload_n 1, 1) := by decide +kernel
theorem dX9_carrierOf_101 : decode cX9_carrierOf 101 = .ok (.invokevirtual 206, 3) := by decide +kernel
theorem dX9_carrierOf_104 : decode cX9_carrierOf 104 = .ok (.ireturn, 1) := by decide +kernel
theorem dX9_carrierOf_105 : decode cX9_carrierOf 105 = .ok (.aload_n 3, 1) := by decide +kernel
theorem dX9_carrierOf_106 : decode cX9_carrierOf 106 = .ok (.getfield 209, 3) := by decide +kernel
theorem dX9_carrierOf_109 : decode cX9_carrierOf 109 = .ok (.iload_n 1, 1) := by decide +kernel
theorem dX9_carrierOf_110 : decode cX9_carrierOf 110 = .ok (.iaload, 1) := by decide +kernel
theorem dX9_carrierOf_111 : decode cX9_carrierOf 111 = .ok (.ireturn, 1) := by decide +kernel
theorem dX9_carrierOf_112 : decode cX9_carrierOf 112 = .ok (.aload_n 3, 1) := by decide +kernel
theorem dX9_carrierOf_113 : decode cX9_carrierOf 113 = .ok (.getfield 212, 3) := by decide +kernel
theorem dX9_carrierOf_116 : decode cX9_carrierOf 116 = .ok (.iload_n 1, 1) := by decide +kernel
theorem dX9_carrierOf_117 : decode cX9_carrierOf 117 = .ok (.iaload, 1) := by decide +kernel
theorem dX9_carrierOf_118 : decode cX9_carrierOf 118 = .ok (.ireturn, 1) := by decide +kernel
theorem dX9_carrierOf_119 : decode cX9_carrierOf 119 = .ok (.aload_n 3, 1) := by decide +kernel
theorem dX9_carrierOf_120 : decode cX9_carrierOf 120 = .ok (.getfield 215, 3) := by decide +kernel
theorem dX9_carrierOf_123 : decode cX9_carrierOf 123 = .ok (.iload_n 1, 1) := by decide +kernel
theorem dX9_carrierOf_124 : decode cX9_carrierOf 124 = .ok (.iaload, 1) := by decide +kernel
theorem dX9_carrierOf_125 : decode cX9_carrierOf 125 = .ok (.ireturn, 1) := by decide +kernel
theorem dX9_carrierOf_126 : decode cX9_carrierOf 126 = .ok (.aload_n 3, 1) := by decide +kernel
theorem dX9_carrierOf_127 : decode cX9_carrierOf 127 = .ok (.getfield 218, 3) := by decide +kernel
theorem dX9_carrierOf_130 : decode cX9_carrierOf 130 = .ok (.iload_n 1, 1) := by decide +kernel
theorem dX9_carrierOf_131 : decode cX9_carrierOf 131 = .ok (.iaload, 1) := by decide +kernel
theorem dX9_carrierOf_132 : decode cX9_carrierOf 132 = .ok (.ireturn, 1) := by decide +kernel
theorem dX9_pauseOf_0 : decode cX9_pauseOf 0 = .ok (.aload_n 0, 1) := by decide +kernel
theorem dX9_pauseOf_1 : decode cX9_pauseOf 1 = .ok (.getfield 10, 3) := by decide +kernel
theorem dX9_pauseOf_4 : decode cX9_pauseOf 4 = .ok (.getfield 144, 3) := by decide +kernel
theorem dX9_pauseOf_7 : decode cX9_pauseOf 7 = .ok (.astore_n 3, 1) := by decide +kernel
theorem dX9_pauseOf_8 : decode cX9_pauseOf 8 = .ok (.iload_n 1, 1) := by decide +kernel
theorem dX9_pauseOf_9 : decode cX9_pauseOf 9 = .ok (.iconst 0, 1) := by decide +kernel
theorem dX9_pauseOf_10 : decode cX9_pauseOf 10 = .ok (.aload_n 3, 1) := by decide +kernel
theorem dX9_pauseOf_11 : decode cX9_pauseOf 11 = .ok (.getfield 219, 3) := by decide +kernel
theorem dX9_pauseOf_14 : decode cX9_pauseOf 14 = .ok (.iconst 1, 1) := by decide +kernel
theorem dX9_pauseOf_15 : decode cX9_pauseOf 15 = .ok (.isub, 1) := by decide +kernel
theorem dX9_pauseOf_16 : decode cX9_pauseOf 16 = .ok (.invokestatic 96, 3) := by decide +kernel
theorem dX9_pauseOf_19 : decode cX9_pauseOf 19 = .ok (.ifCond .eq 12, 3) := by decide +kernel
theorem dX9_pauseOf_22 : decode cX9_pauseOf 22 = .ok (.iload_n 2, 1) := by decide +kernel
theorem dX9_pauseOf_23 : decode cX9_pauseOf 23 = .ok (.iconst 0, 1) := by decide +kernel
theorem dX9_pauseOf_24 : decode cX9_pauseOf 24 = .ok (.iconst 2, 1) := by decide +kernel
theorem dX9_pauseOf_25 : decode cX9_pauseOf 25 = .ok (.invokestatic 96, 3) := by decide +kernel
theorem dX9_pauseOf_28 : decode cX9_pauseOf 28 = .ok (.ifCond .ne 5, 3) := by decide +kernel
theorem dX9_pauseOf_31 : decode cX9_pauseOf 31 = .ok (.iconst (-1), 1) := by decide +kernel
theorem dX9_pauseOf_32 : decode cX9_pauseOf 32 = .ok (.ireturn, 1) := by decide +kernel
theorem dX9_pauseOf_33 : decode cX9_pauseOf 33 = .ok (.iload_n 2, 1) := by decide +kernel
theorem dX9_pauseOf_34 : decode cX9_pauseOf 34 = .ok (.lookupswitch 40 #[(0, 26), (1, 33)], 26) := by decide +kernel
theorem dX9_pauseOf_60 : decode cX9_pauseOf 60 = .ok (.aload_n 3, 1) := by decide +kernel
theorem dX9_pauseOf_61 : decode cX9_pauseOf 61 = .ok (.getfield 220, 3) := by decide +kernel
theorem dX9_pauseOf_64 : decode cX9_pauseOf 64 = .ok (.iload_n 1, 1) := by decide +kernel
theorem dX9_pauseOf_65 : decode cX9_pauseOf 65 = .ok (.iaload, 1) := by decide +kernel
theorem dX9_pauseOf_66 : decode cX9_pauseOf 66 = .ok (.ireturn, 1) := by decide +kernel
theorem dX9_pauseOf_67 : decode cX9_pauseOf 67 = .ok (.aload_n 3, 1) := by decide +kernel
theorem dX9_pauseOf_68 : decode cX9_pauseOf 68 = .ok (.getfield 223, 3) := by decide +kernel
theorem dX9_pauseOf_71 : decode cX9_pauseOf 71 = .ok (.iload_n 1, 1) := by decide +kernel
theorem dX9_pauseOf_72 : decode cX9_pauseOf 72 = .ok (.iaload, 1) := by decide +kernel
theorem dX9_pauseOf_73 : decode cX9_pauseOf 73 = .ok (.ireturn, 1) := by decide +kernel
theorem dX9_pauseOf_74 : decode cX9_pauseOf 74 = .ok (.aload_n 3, 1) := by decide +kernel
theorem dX9_pauseOf_75 : decode cX9_pauseOf 75 = .ok (.getfield 226, 3) := by decide +kernel
theorem dX9_pauseOf_78 : decode cX9_pauseOf 78 = .ok (.iload_n 1, 1) := by decide +kernel
theorem dX9_pauseOf_79 : decode cX9_pauseOf 79 = .ok (.iaload, 1) := by decide +kernel
theorem dX9_pauseOf_80 : decode cX9_pauseOf 80 = .ok (.ireturn, 1) := by decide +kernel
theorem dX9_roundAt_0 : decode cX9_roundAt 0 = .ok (.aload_n 0, 1) := by decide +kernel
theorem dX9_roundAt_1 : decode cX9_roundAt 1 = .ok (.getfield 10, 3) := by decide +kernel
theorem dX9_roundAt_4 : decode cX9_roundAt 4 = .ok (.getfield 190, 3) := by decide +kernel
theorem dX9_roundAt_7 : decode cX9_roundAt 7 = .ok (.iload_n 1, 1) := by decide +kernel
theorem dX9_roundAt_8 : decode cX9_roundAt 8 = .ok (.invokevirtual 194, 3) := by decide +kernel
theorem dX9_roundAt_11 : decode cX9_roundAt 11 = .ok (.ifCond .eq 7, 3) := by decide +kernel
theorem dX9_roundAt_14 : decode cX9_roundAt 14 = .ok (.iload_n 2, 1) := by decide +kernel
theorem dX9_roundAt_15 : decode cX9_roundAt 15 = .ok (.ifCond .ge 5, 3) := by decide +kernel
theorem dX9_roundAt_18 : decode cX9_roundAt 18 = .ok (.iconst (-1), 1) := by decide +kernel
theorem dX9_roundAt_19 : decode cX9_roundAt 19 = .ok (.ireturn, 1) := by decide +kernel
theorem dX9_roundAt_20 : decode cX9_roundAt 20 = .ok (.aload_n 0, 1) := by decide +kernel
theorem dX9_roundAt_21 : decode cX9_roundAt 21 = .ok (.getfield 10, 3) := by decide +kernel
theorem dX9_roundAt_24 : decode cX9_roundAt 24 = .ok (.getfield 122, 3) := by decide +kernel
theorem dX9_roundAt_27 : decode cX9_roundAt 27 = .ok (.astore_n 3, 1) := by decide +kernel
theorem dX9_roundAt_28 : decode cX9_roundAt 28 = .ok (.iconst 0, 1) := by decide +kernel
theorem dX9_roundAt_29 : decode cX9_roundAt 29 = .ok (.istore 4, 2) := by decide +kernel
theorem dX9_roundAt_31 : decode cX9_roundAt 31 = .ok (.iconst 0, 1) := by decide +kernel
theorem dX9_roundAt_32 : decode cX9_roundAt 32 = .ok (.istore 5, 2) := by decide +kernel
theorem dX9_roundAt_34 : decode cX9_roundAt 34 = .ok (.iload 5, 2) := by decide +kernel
theorem dX9_roundAt_36 : decode cX9_roundAt 36 = .ok (.aload_n 3, 1) := by decide +kernel
theorem dX9_roundAt_37 : decode cX9_roundAt 37 = .ok (.getfield 187, 3) := by decide +kernel
theorem dX9_roundAt_40 : decode cX9_roundAt 40 = .ok (.if_icmp .ge 41, 3) := by decide +kernel
theorem dX9_roundAt_43 : decode cX9_roundAt 43 = .ok (.aload_n 3, 1) := by decide +kernel
theorem dX9_roundAt_44 : decode cX9_roundAt 44 = .ok (.getfield 229, 3) := by decide +kernel
theorem dX9_roundAt_47 : decode cX9_roundAt 47 = .ok (.iload 5, 2) := by decide +kernel
theorem dX9_roundAt_49 : decode cX9_roundAt 49 = .ok (.iaload, 1) := by decide +kernel
theorem dX9_roundAt_50 : decode cX9_roundAt 50 = .ok (.istore 6, 2) := by decide +kernel
theorem dX9_roundAt_52 : decode cX9_roundAt 52 = .ok (.aload_n 3, 1) := by decide +kernel
theorem dX9_roundAt_53 : decode cX9_roundAt 53 = .ok (.getfield 138, 3) := by decide +kernel
theorem dX9_roundAt_56 : decode cX9_roundAt 56 = .ok (.iload 6, 2) := by decide +kernel
theorem dX9_roundAt_58 : decode cX9_roundAt 58 = .ok (.iaload, 1) := by decide +kernel
theorem dX9_roundAt_59 : decode cX9_roundAt 59 = .ok (.iload_n 1, 1) := by decide +kernel
theorem dX9_roundAt_60 : decode cX9_roundAt 60 = .ok (.if_icmp .ne 15, 3) := by decide +kernel
theorem dX9_roundAt_63 : decode cX9_roundAt 63 = .ok (.iload 4, 2) := by decide +kernel
theorem dX9_roundAt_65 : decode cX9_roundAt 65 = .ok (.iload_n 2, 1) := by decide +kernel
theorem dX9_roundAt_66 : decode cX9_roundAt 66 = .ok (.if_icmp .ne 6, 3) := by decide +kernel
theorem dX9_roundAt_69 : decode cX9_roundAt 69 = .ok (.iload 6, 2) := by decide +kernel
theorem dX9_roundAt_71 : decode cX9_roundAt 71 = .ok (.ireturn, 1) := by decide +kernel
theorem dX9_roundAt_72 : decode cX9_roundAt 72 = .ok (.iinc 4 1, 3) := by decide +kernel
theorem dX9_roundAt_75 : decode cX9_roundAt 75 = .ok (.iinc 5 1, 3) := by decide +kernel
theorem dX9_roundAt_78 : decode cX9_roundAt 78 = .ok (.goto (-44), 3) := by decide +kernel
theorem dX9_roundAt_81 : decode cX9_roundAt 81 = .ok (.bipush (-4), 2) := by decide +kernel
theorem dX9_roundAt_83 : decode cX9_roundAt 83 = .ok (.ireturn, 1) := by decide +kernel
theorem dX9_round_0 : decode cX9_round 0 = .ok (.aload_n 0, 1) := by decide +kernel
theorem dX9_round_1 : decode cX9_round 1 = .ok (.getfield 10, 3) := by decide +kernel
theorem dX9_round_4 : decode cX9_round 4 = .ok (.getfield 190, 3) := by decide +kernel
theorem dX9_round_7 : decode cX9_round 7 = .ok (.iload_n 1, 1) := by decide +kernel
theorem dX9_round_8 : decode cX9_round 8 = .ok (.invokevirtual 194, 3) := by decide +kernel
theorem dX9_round_11 : decode cX9_round 11 = .ok (.ifCond .eq 29, 3) := by decide +kernel
theorem dX9_round_14 : decode cX9_round 14 = .ok (.iload_n 2, 1) := by decide +kernel
theorem dX9_round_15 : decode cX9_round 15 = .ok (.aload_n 0, 1) := by decide +kernel
theorem dX9_round_16 : decode cX9_round 16 = .ok (.getfield 10, 3) := by decide +kernel
theorem dX9_round_19 : decode cX9_round 19 = .ok (.getfield 148, 3) := by decide +kernel
theorem dX9_round_22 : decode cX9_round 22 = .ok (.sipush 999, 3) := by decide +kernel
theorem dX9_round_25 : decode cX9_round 25 = .ok (.invokestatic 96, 3) := by decide +kernel
theorem dX9_round_28 : decode cX9_round 28 = .ok (.ifCond .eq 12, 3) := by decide +kernel
theorem dX9_round_31 : decode cX9_round 31 = .ok (.iload_n 3, 1) := by decide +kernel
theorem dX9_round_32 : decode cX9_round 32 = .ok (.iconst 0, 1) := by decide +kernel
theorem dX9_round_33 : decode cX9_round 33 = .ok (.iconst 3, 1) := by decide +kernel
theorem dX9_round_34 : decode cX9_round 34 = .ok (.invokestatic 96, 3) := by decide +kernel
theorem dX9_round_37 : decode cX9_round 37 = .ok (.ifCond .ne 5, 3) := by decide +kernel
theorem dX9_round_40 : decode cX9_round 40 = .ok (.iconst (-1), 1) := by decide +kernel
theorem dX9_round_41 : decode cX9_round 41 = .ok (.ireturn, 1) := by decide +kernel
theorem dX9_round_42 : decode cX9_round 42 = .ok (.aload_n 0, 1) := by decide +kernel
theorem dX9_round_43 : decode cX9_round 43 = .ok (.getfield 26, 3) := by decide +kernel
theorem dX9_round_46 : decode cX9_round 46 = .ok (.aload_n 0, 1) := by decide +kernel
theorem dX9_round_47 : decode cX9_round 47 = .ok (.getfield 10, 3) := by decide +kernel
theorem dX9_round_50 : decode cX9_round 50 = .ok (.iload_n 1, 1) := by decide +kernel
theorem dX9_round_51 : decode cX9_round 51 = .ok (.iload_n 2, 1) := by decide +kernel
theorem dX9_round_52 : decode cX9_round 52 = .ok (.iconst (-1), 1) := by decide +kernel
theorem dX9_round_53 : decode cX9_round 53 = .ok (.invokevirtual 232, 3) := by decide +kernel
theorem dX9_round_56 : decode cX9_round 56 = .ok (.iload_n 3, 1) := by decide +kernel
theorem dX9_round_57 : decode cX9_round 57 = .ok (.tableswitch 51 0 2 #[27, 35, 43], 27) := by decide +kernel
theorem dX9_round_84 : decode cX9_round 84 = .ok (.aload_n 0, 1) := by decide +kernel
theorem dX9_round_85 : decode cX9_round 85 = .ok (.getfield 26, 3) := by decide +kernel
theorem dX9_round_88 : decode cX9_round 88 = .ok (.getfield 236, 3) := by decide +kernel
theorem dX9_round_91 : decode cX9_round 91 = .ok (.ireturn, 1) := by decide +kernel
theorem dX9_round_92 : decode cX9_round 92 = .ok (.aload_n 0, 1) := by decide +kernel
theorem dX9_round_93 : decode cX9_round 93 = .ok (.getfield 26, 3) := by decide +kernel
theorem dX9_round_96 : decode cX9_round 96 = .ok (.getfield 238, 3) := by decide +kernel
theorem dX9_round_99 : decode cX9_round 99 = .ok (.ireturn, 1) := by decide +kernel
theorem dX9_round_100 : decode cX9_round 100 = .ok (.aload_n 0, 1) := by decide +kernel
theorem dX9_round_101 : decode cX9_round 101 = .ok (.getfield 26, 3) := by decide +kernel
theorem dX9_round_104 : decode cX9_round 104 = .ok (.getfield 240, 3) := by decide +kernel
theorem dX9_round_107 : decode cX9_round 107 = .ok (.ireturn, 1) := by decide +kernel
theorem dX9_round_108 : decode cX9_round 108 = .ok (.aload_n 0, 1) := by decide +kernel
theorem dX9_round_109 : decode cX9_round 109 = .ok (.getfield 26, 3) := by decide +kernel
theorem dX9_round_112 : decode cX9_round 112 = .ok (.getfield 242, 3) := by decide +kernel
theorem dX9_round_115 : decode cX9_round 115 = .ok (.ireturn, 1) := by decide +kernel
theorem dX9_lightest_0 : decode cX9_lightest 0 = .ok (.aload_n 0, 1) := by decide +kernel
theorem dX9_lightest_1 : decode cX9_lightest 1 = .ok (.getfield 10, 3) := by decide +kernel
theorem dX9_lightest_4 : decode cX9_lightest 4 = .ok (.getfield 122, 3) := by decide +kernel
theorem dX9_lightest_7 : decode cX9_lightest 7 = .ok (.iload_n 1, 1) := by decide +kernel
theorem dX9_lightest_8 : decode cX9_lightest 8 = .ok (.invokevirtual 126, 3) := by decide +kernel
theorem dX9_lightest_11 : decode cX9_lightest 11 = .ok (.ifCond .eq 20, 3) := by decide +kernel
theorem dX9_lightest_14 : decode cX9_lightest 14 = .ok (.iload_n 2, 1) := by decide +kernel
theorem dX9_lightest_15 : decode cX9_lightest 15 = .ok (.aload_n 0, 1) := by decide +kernel
theorem dX9_lightest_16 : decode cX9_lightest 16 = .ok (.getfield 10, 3) := by decide +kernel
theorem dX9_lightest_19 : decode cX9_lightest 19 = .ok (.getfield 148, 3) := by decide +kernel
theorem dX9_lightest_22 : decode cX9_lightest 22 = .ok (.sipush 999, 3) := by decide +kernel
theorem dX9_lightest_25 : decode cX9_lightest 25 = .ok (.invokestatic 96, 3) := by decide +kernel
theorem dX9_lightest_28 : decode cX9_lightest 28 = .ok (.ifCond .ne 5, 3) := by decide +kernel
theorem dX9_lightest_31 : decode cX9_lightest 31 = .ok (.iconst (-1), 1) := by decide +kernel
theorem dX9_lightest_32 : decode cX9_lightest 32 = .ok (.ireturn, 1) := by decide +kernel
theorem dX9_lightest_33 : decode cX9_lightest 33 = .ok (.bipush (-4), 2) := by decide +kernel
theorem dX9_lightest_35 : decode cX9_lightest 35 = .ok (.istore_n 3, 1) := by decide +kernel
theorem dX9_lightest_36 : decode cX9_lightest 36 = .ok (.iconst 0, 1) := by decide +kernel
theorem dX9_lightest_37 : decode cX9_lightest 37 = .ok (.istore 4, 2) := by decide +kernel
theorem dX9_lightest_39 : decode cX9_lightest 39 = .ok (.iconst 0, 1) := by decide +kernel
theorem dX9_lightest_40 : decode cX9_lightest 40 = .ok (.istore 5, 2) := by decide +kernel
theorem dX9_lightest_42 : decode cX9_lightest 42 = .ok (.iload 5, 2) := by decide +kernel
theorem dX9_lightest_44 : decode cX9_lightest 44 = .ok (.aload_n 0, 1) := by decide +kernel
theorem dX9_lightest_45 : decode cX9_lightest 45 = .ok (.getfield 10, 3) := by decide +kernel
theorem dX9_lightest_48 : decode cX9_lightest 48 = .ok (.getfield 190, 3) := by decide +kernel
theorem dX9_lightest_51 : decode cX9_lightest 51 = .ok (.getfield 245, 3) := by decide +kernel
theorem dX9_lightest_54 : decode cX9_lightest 54 = .ok (.if_icmp .ge 76, 3) := by decide +kernel
theorem dX9_lightest_57 : decode cX9_lightest 57 = .ok (.iload 5, 2) := by decide +kernel
theorem dX9_lightest_59 : decode cX9_lightest 59 = .ok (.aload_n 0, 1) := by decide +kernel
theorem dX9_lightest_60 : decode cX9_lightest 60 = .ok (.getfield 10, 3) := by decide +kernel
theorem dX9_lightest_63 : decode cX9_lightest 63 = .ok (.getfield 122, 3) := by decide +kernel
theorem dX9_lightest_66 : decode cX9_lightest 66 = .ok (.getfield 138, 3) := by decide +kernel
theorem dX9_lightest_69 : decode cX9_lightest 69 = .ok (.iload_n 1, 1) := by decide +kernel
theorem dX9_lightest_70 : decode cX9_lightest 70 = .ok (.iaload, 1) := by decide +kernel
theorem dX9_lightest_71 : decode cX9_lightest 71 = .ok (.if_icmp .eq 53, 3) := by decide +kernel
theorem dX9_lightest_74 : decode cX9_lightest 74 = .ok (.aload_n 0, 1) := by decide +kernel
theorem dX9_lightest_75 : decode cX9_lightest 75 = .ok (.getfield 10, 3) := by decide +kernel
theorem dX9_lightest_78 : decode cX9_lightest 78 = .ok (.iload 5, 2) := by decide +kernel
theorem dX9_lightest_80 : decode cX9_lightest 80 = .ok (.iload_n 1, 1) := by decide +kernel
theorem dX9_lightest_81 : decode cX9_lightest 81 = .ok (.invokevirtual 246, 3) := by decide +kernel
theorem dX9_lightest_84 : decode cX9_lightest 84 = .ok (.ifCond .eq 40, 3) := by decide +kernel
theorem dX9_lightest_87 : decode cX9_lightest 87 = .ok (.aload_n 0, 1) := by decide +kernel
theorem dX9_lightest_88 : decode cX9_lightest 88 = .ok (.getfield 26, 3) := by decide +kernel
theorem dX9_lightest_91 : decode cX9_lightest 91 = .ok (.aload_n 0, 1) := by decide +kernel
theorem dX9_lightest_92 : decode cX9_lightest 92 = .ok (.getfield 10, 3) := by decide +kernel
theorem dX9_lightest_95 : decode cX9_lightest 95 = .ok (.iload 5, 2) := by decide +kernel
theorem dX9_lightest_97 : decode cX9_lightest 97 = .ok (.iload_n 2, 1) := by decide +kernel
theorem dX9_lightest_98 : decode cX9_lightest 98 = .ok (.iload_n 1, 1) := by decide +kernel
theorem dX9_lightest_99 : decode cX9_lightest 99 = .ok (.invokevirtual 249, 3) := by decide +kernel
theorem dX9_lightest_102 : decode cX9_lightest 102 = .ok (.istore 6, 2) := by decide +kernel
theorem dX9_lightest_104 : decode cX9_lightest 104 = .ok (.iload_n 3, 1) := by decide +kernel
theorem dX9_lightest_105 : decode cX9_lightest 105 = .ok (.bipush (-4), 2) := by decide +kernel
theorem dX9_lightest_107 : decode cX9_lightest 107 = .ok (.if_icmp .eq 10, 3) := by decide +kernel
theorem dX9_lightest_110 : decode cX9_lightest 110 = .ok (.iload 6, 2) := by decide +kernel
theorem dX9_lightest_112 : decode cX9_lightest 112 = .ok (.iload 4, 2) := by decide +kernel
theorem dX9_lightest_114 : decode cX9_lightest 114 = .ok (.if_icmp .ge 10, 3) := by decide +kernel
theorem dX9_lightest_117 : decode cX9_lightest 117 = .ok (.iload 5, 2) := by decide +kernel
theorem dX9_lightest_119 : decode cX9_lightest 119 = .ok (.istore_n 3, 1) := by decide +kernel
theorem dX9_lightest_120 : decode cX9_lightest 120 = .ok (.iload 6, 2) := by decide +kernel
theorem dX9_lightest_122 : decode cX9_lightest 122 = .ok (.istore 4, 2) := by decide +kernel
theorem dX9_lightest_124 : decode cX9_lightest 124 = .ok (.iinc 5 1, 3) := by decide +kernel
theorem dX9_lightest_127 : decode cX9_lightest 127 = .ok (.goto (-85), 3) := by decide +kernel
theorem dX9_lightest_130 : decode cX9_lightest 130 = .ok (.iload_n 3, 1) := by decide +kernel
theorem dX9_lightest_131 : decode cX9_lightest 131 = .ok (.ireturn, 1) := by decide +kernel
theorem dX9_nextDog_0 : decode cX9_nextDog 0 = .ok (.aload_n 0, 1) := by decide +kernel
theorem dX9_nextDog_1 : decode cX9_nextDog 1 = .ok (.getfield 10, 3) := by decide +kernel
theorem dX9_nextDog_4 : decode cX9_nextDog 4 = .ok (.getfield 122, 3) := by decide +kernel
theorem dX9_nextDog_7 : decode cX9_nextDog 7 = .ok (.iload_n 1, 1) := by decide +kernel
theorem dX9_nextDog_8 : decode cX9_nextDog 8 = .ok (.invokevirtual 126, 3) := by decide +kernel
theorem dX9_nextDog_11 : decode cX9_nextDog 11 = .ok (.ifCond .ne 5, 3) := by decide +kernel
theorem dX9_nextDog_14 : decode cX9_nextDog 14 = .ok (.iconst (-1), 1) := by decide +kernel
theorem dX9_nextDog_15 : decode cX9_nextDog 15 = .ok (.ireturn, 1) := by decide +kernel
theorem dX9_nextDog_16 : decode cX9_nextDog 16 = .ok (.aload_n 0, 1) := by decide +kernel
theorem dX9_nextDog_17 : decode cX9_nextDog 17 = .ok (.getfield 10, 3) := by decide +kernel
theorem dX9_nextDog_20 : decode cX9_nextDog 20 = .ok (.getfield 148, 3) := by decide +kernel
theorem dX9_nextDog_23 : decode cX9_nextDog 23 = .ok (.istore_n 2, 1) := by decide +kernel
theorem dX9_nextDog_24 : decode cX9_nextDog 24 = .ok (.iload_n 2, 1) := by decide +kernel
theorem dX9_nextDog_25 : decode cX9_nextDog 25 = .ok (.sipush 999, 3) := by decide +kernel
theorem dX9_nextDog_28 : decode cX9_nextDog 28 = .ok (.if_icmp .gt 41, 3) := by decide +kernel
theorem dX9_nextDog_31 : decode cX9_nextDog 31 = .ok (.aload_n 0, 1) := by decide +kernel
theorem dX9_nextDog_32 : decode cX9_nextDog 32 = .ok (.getfield 10, 3) := by decide +kernel
theorem dX9_nextDog_35 : decode cX9_nextDog 35 = .ok (.getfield 122, 3) := by decide +kernel
theorem dX9_nextDog_38 : decode cX9_nextDog 38 = .ok (.iload_n 1, 1) := by decide +kernel
theorem dX9_nextDog_39 : decode cX9_nextDog 39 = .ok (.iload_n 2, 1) := by decide +kernel
theorem dX9_nextDog_40 : decode cX9_nextDog 40 = .ok (.invokevirtual 253, 3) := by decide +kernel
theorem dX9_nextDog_43 : decode cX9_nextDog 43 = .ok (.ifCond .eq 20, 3) := by decide +kernel
theorem dX9_nextDog_46 : decode cX9_nextDog 46 = .ok (.aload_n 0, 1) := by decide +kernel
theorem dX9_nextDog_47 : decode cX9_nextDog 47 = .ok (.getfield 10, 3) := by decide +kernel
theorem dX9_nextDog_50 : decode cX9_nextDog 50 = .ok (.getfield 144, 3) := by decide +kernel
theorem dX9_nextDog_53 : decode cX9_nextDog 53 = .ok (.iload_n 1, 1) := by decide +kernel
theorem dX9_nextDog_54 : decode cX9_nextDog 54 = .ok (.iload_n 2, 1) := by decide +kernel
theorem dX9_nextDog_55 : decode cX9_nextDog 55 = .ok (.invokevirtual 152, 3) := by decide +kernel
theorem dX9_nextDog_58 : decode cX9_nextDog 58 = .ok (.ifCond .ne 5, 3) := by decide +kernel
theorem dX9_nextDog_61 : decode cX9_nextDog 61 = .ok (.iload_n 2, 1) := by decide +kernel
theorem dX9_nextDog_62 : decode cX9_nextDog 62 = .ok (.ireturn, 1) := by decide +kernel
theorem dX9_nextDog_63 : decode cX9_nextDog 63 = .ok (.iinc 2 1, 3) := by decide +kernel
theorem dX9_nextDog_66 : decode cX9_nextDog 66 = .ok (.goto (-42), 3) := by decide +kernel
theorem dX9_nextDog_69 : decode cX9_nextDog 69 = .ok (.bipush (-4), 2) := by decide +kernel
theorem dX9_nextDog_71 : decode cX9_nextDog 71 = .ok (.ireturn, 1) := by decide +kernel
theorem dX9_account_0 : decode cX9_account 0 = .ok (.iload_n 1, 1) := by decide +kernel
theorem dX9_account_1 : decode cX9_account 1 = .ok (.iconst 0, 1) := by decide +kernel
theorem dX9_account_2 : decode cX9_account 2 = .ok (.iconst 5, 1) := by decide +kernel
theorem dX9_account_3 : decode cX9_account 3 = .ok (.invokestatic 96, 3) := by decide +kernel
theorem dX9_account_6 : decode cX9_account 6 = .ok (.ifCond .ne 5, 3) := by decide +kernel
theorem dX9_account_9 : decode cX9_account 9 = .ok (.iconst (-1), 1) := by decide +kernel
theorem dX9_account_10 : decode cX9_account 10 = .ok (.ireturn, 1) := by decide +kernel
theorem dX9_account_11 : decode cX9_account 11 = .ok (.aload_n 0, 1) := by decide +kernel
theorem dX9_account_12 : decode cX9_account 12 = .ok (.getfield 10, 3) := by decide +kernel
theorem dX9_account_15 : decode cX9_account 15 = .ok (.getfield 256, 3) := by decide +kernel
theorem dX9_account_18 : decode cX9_account 18 = .ok (.iload_n 1, 1) := by decide +kernel
theorem dX9_account_19 : decode cX9_account 19 = .ok (.iaload, 1) := by decide +kernel
theorem dX9_account_20 : decode cX9_account 20 = .ok (.ireturn, 1) := by decide +kernel
theorem dX9_count_0 : decode cX9_count 0 = .ok (.iload_n 1, 1) := by decide +kernel
theorem dX9_count_1 : decode cX9_count 1 = .ok (.tableswitch 229 0 21 #[103, 114, 125, 136, 147, 155, 167, 175, 186, 197, 205, 229, 229, 229, 229, 229, 229, 229, 229, 229, 213, 221], 103) := by decide +kernel
theorem dX9_count_104 : decode cX9_count 104 = .ok (.aload_n 0, 1) := by decide +kernel
theorem dX9_count_105 : decode cX9_count 105 = .ok (.getfield 10, 3) := by decide +kernel
theorem dX9_count_108 : decode cX9_count 108 = .ok (.getfield 86, 3) := by decide +kernel
theorem dX9_count_111 : decode cX9_count 111 = .ok (.getfield 259, 3) := by decide +kernel
theorem dX9_count_114 : decode cX9_count 114 = .ok (.ireturn, 1) := by decide +kernel
theorem dX9_count_115 : decode cX9_count 115 = .ok (.aload_n 0, 1) := by decide +kernel
theorem dX9_count_116 : decode cX9_count 116 = .ok (.getfield 10, 3) := by decide +kernel
theorem dX9_count_119 : decode cX9_count 119 = .ok (.getfield 122, 3) := by decide +kernel
theorem dX9_count_122 : decode cX9_count 122 = .ok (.getfield 187, 3) := by decide +kernel
theorem dX9_count_125 : decode cX9_count 125 = .ok (.ireturn, 1) := by decide +kernel
theorem dX9_count_126 : decode cX9_count 126 = .ok (.aload_n 0, 1) := by decide +kernel
theorem dX9_count_127 : decode cX9_count 127 = .ok (.getfield 10, 3) := by decide +kernel
theorem dX9_count_130 : decode cX9_count 130 = .ok (.getfield 190, 3) := by decide +kernel
theorem dX9_count_133 : decode cX9_count 133 = .ok (.getfield 245, 3) := by decide +kernel
theorem dX9_count_136 : decode cX9_count 136 = .ok (.ireturn, 1) := by decide +kernel
theorem dX9_count_137 : decode cX9_count 137 = .ok (.aload_n 0, 1) := by decide +kernel
theorem dX9_count_138 : decode cX9_count 138 = .ok (.getfield 10, 3) := by decide +kernel
theorem dX9_count_141 : decode cX9_count 141 = .ok (.getfield 144, 3) := by decide +kernel
theorem dX9_count_144 : decode cX9_count 144 = .ok (.getfield 219, 3) := by decide +kernel
theorem dX9_count_147 : decode cX9_count 147 = .ok (.ireturn, 1) := by decide +kernel
theorem dX9_count_148 : decode cX9_count 148 = .ok (.aload_n 0, 1) := by decide +kernel
theorem dX9_count_149 : decode cX9_count 149 = .ok (.getfield 10, 3) := by decide +kernel
theorem dX9_count_152 : decode cX9_count 152 = .ok (.getfield 148, 3) := by decide +kernel
theorem dX9_count_155 : decode cX9_count 155 = .ok (.ireturn, 1) := by decide +kernel
theorem dX9_count_156 : decode cX9_count 156 = .ok (.aload_n 0, 1) := by decide +kernel
theorem dX9_count_157 : decode cX9_count 157 = .ok (.getfield 10, 3) := by decide +kernel
theorem dX9_count_160 : decode cX9_count 160 = .ok (.getfield 122, 3) := by decide +kernel
theorem dX9_count_163 : decode cX9_count 163 = .ok (.iconst (-1), 1) := by decide +kernel
theorem dX9_count_164 : decode cX9_count 164 = .ok (.invokevirtual 206, 3) := by decide +kernel
theorem dX9_count_167 : decode cX9_count 167 = .ok (.ireturn, 1) := by decide +kernel
theorem dX9_count_168 : decode cX9_count 168 = .ok (.aload_n 0, 1) := by decide +kernel
theorem dX9_count_169 : decode cX9_count 169 = .ok (.getfield 10, 3) := by decide +kernel
theorem dX9_count_172 : decode cX9_count 172 = .ok (.invokevirtual 260, 3) := by decide +kernel
theorem dX9_count_175 : decode cX9_count 175 = .ok (.ireturn, 1) := by decide +kernel
theorem dX9_count_176 : decode cX9_count 176 = .ok (.aload_n 0, 1) := by decide +kernel
theorem dX9_count_177 : decode cX9_count 177 = .ok (.getfield 10, 3) := by decide +kernel
theorem dX9_count_180 : decode cX9_count 180 = .ok (.getfield 122, 3) := by decide +kernel
theorem dX9_count_183 : decode cX9_count 183 = .ok (.invokevirtual 264, 3) := by decide +kernel
theorem dX9_count_186 : decode cX9_count 186 = .ok (.ireturn, 1) := by decide +kernel
theorem dX9_count_187 : decode cX9_count 187 = .ok (.aload_n 0, 1) := by decide +kernel
theorem dX9_count_188 : decode cX9_count 188 = .ok (.getfield 10, 3) := by decide +kernel
theorem dX9_count_191 : decode cX9_count 191 = .ok (.getfield 190, 3) := by decide +kernel
theorem dX9_count_194 : decode cX9_count 194 = .ok (.invokevirtual 267, 3) := by decide +kernel
theorem dX9_count_197 : decode cX9_count 197 = .ok (.ireturn, 1) := by decide +kernel
theorem dX9_count_198 : decode cX9_count 198 = .ok (.aload_n 0, 1) := by decide +kernel
theorem dX9_count_199 : decode cX9_count 199 = .ok (.getfield 19, 3) := by decide +kernel
theorem dX9_count_202 : decode cX9_count 202 = .ok (.getfield 270, 3) := by decide +kernel
theorem dX9_count_205 : decode cX9_count 205 = .ok (.ireturn, 1) := by decide +kernel
theorem dX9_count_206 : decode cX9_count 206 = .ok (.aload_n 0, 1) := by decide +kernel
theorem dX9_count_207 : decode cX9_count 207 = .ok (.getfield 33, 3) := by decide +kernel
theorem dX9_count_210 : decode cX9_count 210 = .ok (.getfield 273, 3) := by decide +kernel
theorem dX9_count_213 : decode cX9_count 213 = .ok (.ireturn, 1) := by decide +kernel
theorem dX9_count_214 : decode cX9_count 214 = .ok (.aload_n 0, 1) := by decide +kernel
theorem dX9_count_215 : decode cX9_count 215 = .ok (.getfield 10, 3) := by decide +kernel
theorem dX9_count_218 : decode cX9_count 218 = .ok (.getfield 275, 3) := by decide +kernel
theorem dX9_count_221 : decode cX9_count 221 = .ok (.ireturn, 1) := by decide +kernel
theorem dX9_count_222 : decode cX9_count 222 = .ok (.aload_n 0, 1) := by decide +kernel
theorem dX9_count_223 : decode cX9_count 223 = .ok (.getfield 10, 3) := by decide +kernel
theorem dX9_count_226 : decode cX9_count 226 = .ok (.getfield 278, 3) := by decide +kernel
theorem dX9_count_229 : decode cX9_count 229 = .ok (.ireturn, 1) := by decide +kernel
theorem dX9_count_230 : decode cX9_count 230 = .ok (.iconst (-1), 1) := by decide +kernel
theorem dX9_count_231 : decode cX9_count 231 = .ok (.ireturn, 1) := by decide +kernel
theorem dX9_undo_0 : decode cX9_undo 0 = .ok (.aload_n 0, 1) := by decide +kernel
theorem dX9_undo_1 : decode cX9_undo 1 = .ok (.getfield 19, 3) := by decide +kernel
theorem dX9_undo_4 : decode cX9_undo 4 = .ok (.getfield 270, 3) := by decide +kernel
theorem dX9_undo_7 : decode cX9_undo 7 = .ok (.ifCond .ne 6, 3) := by decide +kernel
theorem dX9_undo_10 : decode cX9_undo 10 = .ok (.bipush (-2), 2) := by decide +kernel
theorem dX9_undo_12 : decode cX9_undo 12 = .ok (.ireturn, 1) := by decide +kernel
theorem dX9_undo_13 : decode cX9_undo 13 = .ok (.aload_n 0, 1) := by decide +kernel
theorem dX9_undo_14 : decode cX9_undo 14 = .ok (.getfield 19, 3) := by decide +kernel
theorem dX9_undo_17 : decode cX9_undo 17 = .ok (.aload_n 0, 1) := by decide +kernel
theorem dX9_undo_18 : decode cX9_undo 18 = .ok (.getfield 10, 3) := by decide +kernel
theorem dX9_undo_21 : decode cX9_undo 21 = .ok (.invokevirtual 281, 3) := by decide +kernel
theorem dX9_undo_24 : decode cX9_undo 24 = .ok (.aload_n 0, 1) := by decide +kernel
theorem dX9_undo_25 : decode cX9_undo 25 = .ok (.getfield 19, 3) := by decide +kernel
theorem dX9_undo_28 : decode cX9_undo 28 = .ok (.getfield 270, 3) := by decide +kernel
theorem dX9_undo_31 : decode cX9_undo 31 = .ok (.ireturn, 1) := by decide +kernel
theorem dX9_type_0 : decode cX9_type 0 = .ok (.iload_n 1, 1) := by decide +kernel
theorem dX9_type_1 : decode cX9_type 1 = .ok (.bipush 32, 2) := by decide +kernel
theorem dX9_type_3 : decode cX9_type 3 = .ok (.bipush 126, 2) := by decide +kernel
theorem dX9_type_5 : decode cX9_type 5 = .ok (.invokestatic 96, 3) := by decide +kernel
theorem dX9_type_8 : decode cX9_type 8 = .ok (.ifCond .ne 5, 3) := by decide +kernel
theorem dX9_type_11 : decode cX9_type 11 = .ok (.iconst (-1), 1) := by decide +kernel
theorem dX9_type_12 : decode cX9_type 12 = .ok (.ireturn, 1) := by decide +kernel
theorem dX9_type_13 : decode cX9_type 13 = .ok (.aload_n 0, 1) := by decide +kernel
theorem dX9_type_14 : decode cX9_type 14 = .ok (.getfield 33, 3) := by decide +kernel
theorem dX9_type_17 : decode cX9_type 17 = .ok (.iload_n 1, 1) := by decide +kernel
theorem dX9_type_18 : decode cX9_type 18 = .ok (.i2c, 1) := by decide +kernel
theorem dX9_type_19 : decode cX9_type 19 = .ok (.invokevirtual 284, 3) := by decide +kernel
theorem dX9_type_22 : decode cX9_type 22 = .ok (.ireturn, 1) := by decide +kernel
theorem dX9_clearText_0 : decode cX9_clearText 0 = .ok (.aload_n 0, 1) := by decide +kernel
theorem dX9_clearText_1 : decode cX9_clearText 1 = .ok (.getfield 33, 3) := by decide +kernel
theorem dX9_clearText_4 : decode cX9_clearText 4 = .ok (.getfield 273, 3) := by decide +kernel
theorem dX9_clearText_7 : decode cX9_clearText 7 = .ok (.istore_n 1, 1) := by decide +kernel
theorem dX9_clearText_8 : decode cX9_clearText 8 = .ok (.aload_n 0, 1) := by decide +kernel
theorem dX9_clearText_9 : decode cX9_clearText 9 = .ok (.getfield 33, 3) := by decide +kernel
theorem dX9_clearText_12 : decode cX9_clearText 12 = .ok (.iconst 0, 1) := by decide +kernel
theorem dX9_clearText_13 : decode cX9_clearText 13 = .ok (.putfield 273, 3) := by decide +kernel
theorem dX9_clearText_16 : decode cX9_clearText 16 = .ok (.iload_n 1, 1) := by decide +kernel
theorem dX9_clearText_17 : decode cX9_clearText 17 = .ok (.ireturn, 1) := by decide +kernel
theorem dX9_fault_0 : decode cX9_fault 0 = .ok (.iload_n 1, 1) := by decide +kernel
theorem dX9_fault_1 : decode cX9_fault 1 = .ok (.iconst 0, 1) := by decide +kernel
theorem dX9_fault_2 : decode cX9_fault 2 = .ok (.iconst 2, 1) := by decide +kernel
theorem dX9_fault_3 : decode cX9_fault 3 = .ok (.invokestatic 96, 3) := by decide +kernel
theorem dX9_fault_6 : decode cX9_fault 6 = .ok (.ifCond .ne 5, 3) := by decide +kernel
theorem dX9_fault_9 : decode cX9_fault 9 = .ok (.iconst (-1), 1) := by decide +kernel
theorem dX9_fault_10 : decode cX9_fault 10 = .ok (.ireturn, 1) := by decide +kernel
theorem dX9_fault_11 : decode cX9_fault 11 = .ok (.aload_n 0, 1) := by decide +kernel
theorem dX9_fault_12 : decode cX9_fault 12 = .ok (.getfield 40, 3) := by decide +kernel
theorem dX9_fault_15 : decode cX9_fault 15 = .ok (.aload_n 0, 1) := by decide +kernel
theorem dX9_fault_16 : decode cX9_fault 16 = .ok (.getfield 10, 3) := by decide +kernel
theorem dX9_fault_19 : decode cX9_fault 19 = .ok (.aload_n 0, 1) := by decide +kernel
theorem dX9_fault_20 : decode cX9_fault 20 = .ok (.getfield 33, 3) := by decide +kernel
theorem dX9_fault_23 : decode cX9_fault 23 = .ok (.aload_n 0, 1) := by decide +kernel
theorem dX9_fault_24 : decode cX9_fault 24 = .ok (.getfield 26, 3) := by decide +kernel
theorem dX9_fault_27 : decode cX9_fault 27 = .ok (.invokevirtual 288, 3) := by decide +kernel
theorem dX9_fault_30 : decode cX9_fault 30 = .ok (.aload_n 0, 1) := by decide +kernel
theorem dX9_fault_31 : decode cX9_fault 31 = .ok (.getfield 40, 3) := by decide +kernel
theorem dX9_fault_34 : decode cX9_fault 34 = .ok (.getfield 292, 3) := by decide +kernel
theorem dX9_fault_37 : decode cX9_fault 37 = .ok (.ifCond .eq 19, 3) := by decide +kernel
theorem dX9_fault_40 : decode cX9_fault 40 = .ok (.iload_n 1, 1) := by decide +kernel
theorem dX9_fault_41 : decode cX9_fault 41 = .ok (.iconst 2, 1) := by decide +kernel
theorem dX9_fault_42 : decode cX9_fault 42 = .ok (.if_icmp .ne 17, 3) := by decide +kernel
theorem dX9_fault_45 : decode cX9_fault 45 = .ok (.aload_n 0, 1) := by decide +kernel
theorem dX9_fault_46 : decode cX9_fault 46 = .ok (.getfield 40, 3) := by decide +kernel
theorem dX9_fault_49 : decode cX9_fault 49 = .ok (.getfield 292, 3) := by decide +kernel
theorem dX9_fault_52 : decode cX9_fault 52 = .ok (.iconst 1, 1) := by decide +kernel
theorem dX9_fault_53 : decode cX9_fault 53 = .ok (.if_icmp .ne 6, 3) := by decide +kernel
theorem dX9_fault_56 : decode cX9_fault 56 = .ok (.bipush (-4), 2) := by decide +kernel
theorem dX9_fault_58 : decode cX9_fault 58 = .ok (.ireturn, 1) := by decide +kernel
theorem dX9_fault_59 : decode cX9_fault 59 = .ok (.iload_n 1, 1) := by decide +kernel
theorem dX9_fault_60 : decode cX9_fault 60 = .ok (.lookupswitch 44 #[(0, 28), (1, 36)], 28) := by decide +kernel
theorem dX9_fault_88 : decode cX9_fault 88 = .ok (.aload_n 0, 1) := by decide +kernel
theorem dX9_fault_89 : decode cX9_fault 89 = .ok (.getfield 40, 3) := by decide +kernel
theorem dX9_fault_92 : decode cX9_fault 92 = .ok (.getfield 295, 3) := by decide +kernel
theorem dX9_fault_95 : decode cX9_fault 95 = .ok (.ireturn, 1) := by decide +kernel
theorem dX9_fault_96 : decode cX9_fault 96 = .ok (.aload_n 0, 1) := by decide +kernel
theorem dX9_fault_97 : decode cX9_fault 97 = .ok (.getfield 40, 3) := by decide +kernel
theorem dX9_fault_100 : decode cX9_fault 100 = .ok (.getfield 292, 3) := by decide +kernel
theorem dX9_fault_103 : decode cX9_fault 103 = .ok (.ireturn, 1) := by decide +kernel
theorem dX9_fault_104 : decode cX9_fault 104 = .ok (.aload_n 0, 1) := by decide +kernel
theorem dX9_fault_105 : decode cX9_fault 105 = .ok (.getfield 40, 3) := by decide +kernel
theorem dX9_fault_108 : decode cX9_fault 108 = .ok (.getfield 298, 3) := by decide +kernel
theorem dX9_fault_111 : decode cX9_fault 111 = .ok (.ireturn, 1) := by decide +kernel
theorem dX9_play_0 : decode cX9_play 0 = .ok (.aload_n 0, 1) := by decide +kernel
theorem dX9_play_1 : decode cX9_play 1 = .ok (.getfield 40, 3) := by decide +kernel
theorem dX9_play_4 : decode cX9_play 4 = .ok (.aload_n 0, 1) := by decide +kernel
theorem dX9_play_5 : decode cX9_play 5 = .ok (.getfield 10, 3) := by decide +kernel
theorem dX9_play_8 : decode cX9_play 8 = .ok (.aload_n 0, 1) := by decide +kernel
theorem dX9_play_9 : decode cX9_play 9 = .ok (.getfield 33, 3) := by decide +kernel
theorem dX9_play_12 : decode cX9_play 12 = .ok (.aload_n 0, 1) := by decide +kernel
theorem dX9_play_13 : decode cX9_play 13 = .ok (.getfield 26, 3) := by decide +kernel
theorem dX9_play_16 : decode cX9_play 16 = .ok (.invokevirtual 288, 3) := by decide +kernel
theorem dX9_play_19 : decode cX9_play 19 = .ok (.aload_n 0, 1) := by decide +kernel
theorem dX9_play_20 : decode cX9_play 20 = .ok (.getfield 40, 3) := by decide +kernel
theorem dX9_play_23 : decode cX9_play 23 = .ok (.getfield 292, 3) := by decide +kernel
theorem dX9_play_26 : decode cX9_play 26 = .ok (.ifCond .eq 6, 3) := by decide +kernel
theorem dX9_play_29 : decode cX9_play 29 = .ok (.bipush (-2), 2) := by decide +kernel
theorem dX9_play_31 : decode cX9_play 31 = .ok (.ireturn, 1) := by decide +kernel
theorem dX9_play_32 : decode cX9_play 32 = .ok (.aload_n 0, 1) := by decide +kernel
theorem dX9_play_33 : decode cX9_play 33 = .ok (.getfield 19, 3) := by decide +kernel
theorem dX9_play_36 : decode cX9_play 36 = .ok (.aload_n 0, 1) := by decide +kernel
theorem dX9_play_37 : decode cX9_play 37 = .ok (.getfield 10, 3) := by decide +kernel
theorem dX9_play_40 : decode cX9_play 40 = .ok (.invokevirtual 44, 3) := by decide +kernel
theorem dX9_play_43 : decode cX9_play 43 = .ok (.aload_n 0, 1) := by decide +kernel
theorem dX9_play_44 : decode cX9_play 44 = .ok (.getfield 10, 3) := by decide +kernel
theorem dX9_play_47 : decode cX9_play 47 = .ok (.aload_n 0, 1) := by decide +kernel
theorem dX9_play_48 : decode cX9_play 48 = .ok (.getfield 40, 3) := by decide +kernel
theorem dX9_play_51 : decode cX9_play 51 = .ok (.getfield 301, 3) := by decide +kernel
theorem dX9_play_54 : decode cX9_play 54 = .ok (.invokevirtual 302, 3) := by decide +kernel
theorem dX9_play_57 : decode cX9_play 57 = .ok (.aload_n 0, 1) := by decide +kernel
theorem dX9_play_58 : decode cX9_play 58 = .ok (.aload_n 0, 1) := by decide +kernel
theorem dX9_play_59 : decode cX9_play 59 = .ok (.getfield 40, 3) := by decide +kernel
theorem dX9_play_62 : decode cX9_play 62 = .ok (.getfield 305, 3) := by decide +kernel
theorem dX9_play_65 : decode cX9_play 65 = .ok (.invokevirtual 52, 3) := by decide +kernel
theorem dX9_play_68 : decode cX9_play 68 = .ok (.ireturn, 1) := by decide +kernel
theorem dX9_settled_0 : decode cX9_settled 0 = .ok (.iload_n 1, 1) := by decide +kernel
theorem dX9_settled_1 : decode cX9_settled 1 = .ok (.ifCond .lt 10, 3) := by decide +kernel
theorem dX9_settled_4 : decode cX9_settled 4 = .ok (.aload_n 0, 1) := by decide +kernel
theorem dX9_settled_5 : decode cX9_settled 5 = .ok (.getfield 19, 3) := by decide +kernel
theorem dX9_settled_8 : decode cX9_settled 8 = .ok (.invokevirtual 308, 3) := by decide +kernel
theorem dX9_settled_11 : decode cX9_settled 11 = .ok (.iload_n 1, 1) := by decide +kernel
theorem dX9_settled_12 : decode cX9_settled 12 = .ok (.ireturn, 1) := by decide +kernel
theorem dX9_within_0 : decode cX9_within 0 = .ok (.iload_n 0, 1) := by decide +kernel
theorem dX9_within_1 : decode cX9_within 1 = .ok (.iload_n 1, 1) := by decide +kernel
theorem dX9_within_2 : decode cX9_within 2 = .ok (.if_icmp .lt 12, 3) := by decide +kernel
theorem dX9_within_5 : decode cX9_within 5 = .ok (.iload_n 0, 1) := by decide +kernel
theorem dX9_within_6 : decode cX9_within 6 = .ok (.iload_n 2, 1) := by decide +kernel
theorem dX9_within_7 : decode cX9_within 7 = .ok (.if_icmp .gt 7, 3) := by decide +kernel
theorem dX9_within_10 : decode cX9_within 10 = .ok (.iconst 1, 1) := by decide +kernel
theorem dX9_within_11 : decode cX9_within 11 = .ok (.goto 4, 3) := by decide +kernel
theorem dX9_within_14 : decode cX9_within 14 = .ok (.iconst 0, 1) := by decide +kernel
theorem dX9_within_15 : decode cX9_within 15 = .ok (.ireturn, 1) := by decide +kernel
theorem dX9_bitsOf_0 : decode cX9_bitsOf 0 = .ok (.fload_n 0, 1) := by decide +kernel
theorem dX9_bitsOf_1 : decode cX9_bitsOf 1 = .ok (.fconst 0, 1) := by decide +kernel
theorem dX9_bitsOf_2 : decode cX9_bitsOf 2 = .ok (.fcmp .l, 1) := by decide +kernel
theorem dX9_bitsOf_3 : decode cX9_bitsOf 3 = .ok (.ifCond .gt 5, 3) := by decide +kernel
theorem dX9_bitsOf_6 : decode cX9_bitsOf 6 = .ok (.iconst 0, 1) := by decide +kernel
theorem dX9_bitsOf_7 : decode cX9_bitsOf 7 = .ok (.ireturn, 1) := by decide +kernel
theorem dX9_bitsOf_8 : decode cX9_bitsOf 8 = .ok (.fload_n 0, 1) := by decide +kernel
theorem dX9_bitsOf_9 : decode cX9_bitsOf 9 = .ok (.fstore_n 1, 1) := by decide +kernel
theorem dX9_bitsOf_10 : decode cX9_bitsOf 10 = .ok (.bipush 127, 2) := by decide +kernel
theorem dX9_bitsOf_12 : decode cX9_bitsOf 12 = .ok (.istore_n 2, 1) := by decide +kernel
theorem dX9_bitsOf_13 : decode cX9_bitsOf 13 = .ok (.fload_n 1, 1) := by decide +kernel
theorem dX9_bitsOf_14 : decode cX9_bitsOf 14 = .ok (.fconst 1, 1) := by decide +kernel
theorem dX9_bitsOf_15 : decode cX9_bitsOf 15 = .ok (.fcmp .g, 1) := by decide +kernel
theorem dX9_bitsOf_16 : decode cX9_bitsOf 16 = .ok (.ifCond .ge 18, 3) := by decide +kernel
theorem dX9_bitsOf_19 : decode cX9_bitsOf 19 = .ok (.iload_n 2, 1) := by decide +kernel
theorem dX9_bitsOf_20 : decode cX9_bitsOf 20 = .ok (.iconst 1, 1) := by decide +kernel
theorem dX9_bitsOf_21 : decode cX9_bitsOf 21 = .ok (.if_icmp .le 13, 3) := by decide +kernel
theorem dX9_bitsOf_24 : decode cX9_bitsOf 24 = .ok (.fload_n 1, 1) := by decide +kernel
theorem dX9_bitsOf_25 : decode cX9_bitsOf 25 = .ok (.fconst 2, 1) := by decide +kernel
theorem dX9_bitsOf_26 : decode cX9_bitsOf 26 = .ok (.fmul, 1) := by decide +kernel
theorem dX9_bitsOf_27 : decode cX9_bitsOf 27 = .ok (.fstore_n 1, 1) := by decide +kernel
theorem dX9_bitsOf_28 : decode cX9_bitsOf 28 = .ok (.iinc 2 (-1), 3) := by decide +kernel
theorem dX9_bitsOf_31 : decode cX9_bitsOf 31 = .ok (.goto (-18), 3) := by decide +kernel
theorem dX9_bitsOf_34 : decode cX9_bitsOf 34 = .ok (.fload_n 1, 1) := by decide +kernel
theorem dX9_bitsOf_35 : decode cX9_bitsOf 35 = .ok (.ldc_w 311, 3) := by decide +kernel
theorem dX9_bitsOf_38 : decode cX9_bitsOf 38 = .ok (.fmul, 1) := by decide +kernel
theorem dX9_bitsOf_39 : decode cX9_bitsOf 39 = .ok (.f2i, 1) := by decide +kernel
theorem dX9_bitsOf_40 : decode cX9_bitsOf 40 = .ok (.ldc_w 312, 3) := by decide +kernel
theorem dX9_bitsOf_43 : decode cX9_bitsOf 43 = .ok (.isub, 1) := by decide +kernel
theorem dX9_bitsOf_44 : decode cX9_bitsOf 44 = .ok (.istore_n 3, 1) := by decide +kernel
theorem dX9_bitsOf_45 : decode cX9_bitsOf 45 = .ok (.iload_n 2, 1) := by decide +kernel
theorem dX9_bitsOf_46 : decode cX9_bitsOf 46 = .ok (.bipush 23, 2) := by decide +kernel
theorem dX9_bitsOf_48 : decode cX9_bitsOf 48 = .ok (.ishl, 1) := by decide +kernel
theorem dX9_bitsOf_49 : decode cX9_bitsOf 49 = .ok (.iload_n 3, 1) := by decide +kernel
theorem dX9_bitsOf_50 : decode cX9_bitsOf 50 = .ok (.iadd, 1) := by decide +kernel
theorem dX9_bitsOf_51 : decode cX9_bitsOf 51 = .ok (.ireturn, 1) := by decide +kernel
theorem dX9_copy_0 : decode cX9_copy 0 = .ok (.aload_n 0, 1) := by decide +kernel
theorem dX9_copy_1 : decode cX9_copy 1 = .ok (.iconst 0, 1) := by decide +kernel
theorem dX9_copy_2 : decode cX9_copy 2 = .ok (.aload_n 1, 1) := by decide +kernel
theorem dX9_copy_3 : decode cX9_copy 3 = .ok (.iconst 0, 1) := by decide +kernel
theorem dX9_copy_4 : decode cX9_copy 4 = .ok (.iload_n 2, 1) := by decide +kernel
theorem dX9_copy_5 : decode cX9_copy 5 = .ok (.invokestatic 313, 3) := by decide +kernel
theorem dX9_copy_8 : decode cX9_copy 8 = .ok (.return_, 1) := by decide +kernel
end
section
theorem dX10_init_0 : decode cX10_init 0 = .ok (.aload_n 0, 1) := by decide +kernel
theorem dX10_init_1 : decode cX10_init 1 = .ok (.invokespecial 1, 3) := by decide +kernel
theorem dX10_init_4 : decode cX10_init 4 = .ok (.aload_n 0, 1) := by decide +kernel
theorem dX10_init_5 : decode cX10_init 5 = .ok (.sipush 537, 3) := by decide +kernel
theorem dX10_init_8 : decode cX10_init 8 = .ok (.newarray .int, 2) := by decide +kernel
theorem dX10_init_10 : decode cX10_init 10 = .ok (.putfield 7, 3) := by decide +kernel
theorem dX10_init_13 : decode cX10_init 13 = .ok (.aload_n 0, 1) := by decide +kernel
theorem dX10_init_14 : decode cX10_init 14 = .ok (.sipush 2148, 3) := by decide +kernel
theorem dX10_init_17 : decode cX10_init 17 = .ok (.newarray .int, 2) := by decide +kernel
theorem dX10_init_19 : decode cX10_init 19 = .ok (.putfield 13, 3) := by decide +kernel
theorem dX10_init_22 : decode cX10_init 22 = .ok (.aload_n 0, 1) := by decide +kernel
theorem dX10_init_23 : decode cX10_init 23 = .ok (.sipush 537, 3) := by decide +kernel
theorem dX10_init_26 : decode cX10_init 26 = .ok (.newarray .int, 2) := by decide +kernel
theorem dX10_init_28 : decode cX10_init 28 = .ok (.putfield 16, 3) := by decide +kernel
theorem dX10_init_31 : decode cX10_init 31 = .ok (.aload_n 0, 1) := by decide +kernel
theorem dX10_init_32 : decode cX10_init 32 = .ok (.sipush 537, 3) := by decide +kernel
theorem dX10_init_35 : decode cX10_init 35 = .ok (.newarray .int, 2) := by decide +kernel
theorem dX10_init_37 : decode cX10_init 37 = .ok (.putfield 19, 3) := by decide +kernel
theorem dX10_init_40 : decode cX10_init 40 = .ok (.aload_n 0, 1) := by decide +kernel
theorem dX10_init_41 : decode cX10_init 41 = .ok (.bipush 60, 2) := by decide +kernel
theorem dX10_init_43 : decode cX10_init 43 = .ok (.newarray .int, 2) := by decide +kernel
theorem dX10_init_45 : decode cX10_init 45 = .ok (.putfield 22, 3) := by decide +kernel
theorem dX10_init_48 : decode cX10_init 48 = .ok (.aload_n 0, 1) := by decide +kernel
theorem dX10_init_49 : decode cX10_init 49 = .ok (.bipush 20, 2) := by decide +kernel
theorem dX10_init_51 : decode cX10_init 51 = .ok (.newarray .int, 2) := by decide +kernel
theorem dX10_init_53 : decode cX10_init 53 = .ok (.putfield 25, 3) := by decide +kernel
theorem dX10_init_56 : decode cX10_init 56 = .ok (.aload_n 0, 1) := by decide +kernel
theorem dX10_init_57 : decode cX10_init 57 = .ok (.bipush 24, 2) := by decide +kernel
theorem dX10_init_59 : decode cX10_init 59 = .ok (.newarray .int, 2) := by decide +kernel
theorem dX10_init_61 : decode cX10_init 61 = .ok (.putfield 28, 3) := by decide +kernel
theorem dX10_init_64 : decode cX10_init 64 = .ok (.aload_n 0, 1) := by decide +kernel
theorem dX10_init_65 : decode cX10_init 65 = .ok (.bipush 20, 2) := by decide +kernel
theorem dX10_init_67 : decode cX10_init 67 = .ok (.newarray .int, 2) := by decide +kernel
theorem dX10_init_69 : decode cX10_init 69 = .ok (.putfield 31, 3) := by decide +kernel
theorem dX10_init_72 : decode cX10_init 72 = .ok (.aload_n 0, 1) := by decide +kernel
theorem dX10_init_73 : decode cX10_init 73 = .ok (.iconst 3, 1) := by decide +kernel
theorem dX10_init_74 : decode cX10_init 74 = .ok (.newarray .int, 2) := by decide +kernel
theorem dX10_init_76 : decode cX10_init 76 = .ok (.putfield 34, 3) := by decide +kernel
theorem dX10_init_79 : decode cX10_init 79 = .ok (.aload_n 0, 1) := by decide +kernel
theorem dX10_init_80 : decode cX10_init 80 = .ok (.getfield 7, 3) := by decide +kernel
theorem dX10_init_83 : decode cX10_init 83 = .ok (.iconst 0, 1) := by decide +kernel
theorem dX10_init_84 : decode cX10_init 84 = .ok (.iconst 1, 1) := by decide +kernel
theorem dX10_init_85 : decode cX10_init 85 = .ok (.iastore, 1) := by decide +kernel
theorem dX10_init_86 : decode cX10_init 86 = .ok (.aload_n 0, 1) := by decide +kernel
theorem dX10_init_87 : decode cX10_init 87 = .ok (.getfield 7, 3) := by decide +kernel
theorem dX10_init_90 : decode cX10_init 90 = .ok (.iconst 5, 1) := by decide +kernel
theorem dX10_init_91 : decode cX10_init 91 = .ok (.iconst 3, 1) := by decide +kernel
theorem dX10_init_92 : decode cX10_init 92 = .ok (.iastore, 1) := by decide +kernel
theorem dX10_init_93 : decode cX10_init 93 = .ok (.aload_n 0, 1) := by decide +kernel
theorem dX10_init_94 : decode cX10_init 94 = .ok (.getfield 7, 3) := by decide +kernel
theorem dX10_init_97 : decode cX10_init 97 = .ok (.bipush 6, 2) := by decide +kernel
theorem dX10_init_99 : decode cX10_init 99 = .ok (.bipush 8, 2) := by decide +kernel
theorem dX10_init_101 : decode cX10_init 101 = .ok (.iastore, 1) := by decide +kernel
theorem dX10_init_102 : decode cX10_init 102 = .ok (.return_, 1) := by decide +kernel
theorem dX10_in_0 : decode cX10_in 0 = .ok (.iload_n 0, 1) := by decide +kernel
theorem dX10_in_1 : decode cX10_in 1 = .ok (.iload_n 1, 1) := by decide +kernel
theorem dX10_in_2 : decode cX10_in 2 = .ok (.if_icmp .lt 12, 3) := by decide +kernel
theorem dX10_in_5 : decode cX10_in 5 = .ok (.iload_n 0, 1) := by decide +kernel
theorem dX10_in_6 : decode cX10_in 6 = .ok (.iload_n 2, 1) := by decide +kernel
theorem dX10_in_7 : decode cX10_in 7 = .ok (.if_icmp .gt 7, 3) := by decide +kernel
theorem dX10_in_10 : decode cX10_in 10 = .ok (.iconst 1, 1) := by decide +kernel
theorem dX10_in_11 : decode cX10_in 11 = .ok (.goto 4, 3) := by decide +kernel
theorem dX10_in_14 : decode cX10_in 14 = .ok (.iconst 0, 1) := by decide +kernel
theorem dX10_in_15 : decode cX10_in 15 = .ok (.ireturn, 1) := by decide +kernel
theorem dX10_copies_0 : decode cX10_copies 0 = .ok (.iconst 0, 1) := by decide +kernel
theorem dX10_copies_1 : decode cX10_copies 1 = .ok (.istore 4, 2) := by decide +kernel
theorem dX10_copies_3 : decode cX10_copies 3 = .ok (.iload 4, 2) := by decide +kernel
theorem dX10_copies_5 : decode cX10_copies 5 = .ok (.sipush 537, 3) := by decide +kernel
theorem dX10_copies_8 : decode cX10_copies 8 = .ok (.if_icmp .ge 21, 3) := by decide +kernel
theorem dX10_copies_11 : decode cX10_copies 11 = .ok (.aload_n 2, 1) := by decide +kernel
theorem dX10_copies_12 : decode cX10_copies 12 = .ok (.iload_n 3, 1) := by decide +kernel
theorem dX10_copies_13 : decode cX10_copies 13 = .ok (.iload 4, 2) := by decide +kernel
theorem dX10_copies_15 : decode cX10_copies 15 = .ok (.iadd, 1) := by decide +kernel
theorem dX10_copies_16 : decode cX10_copies 16 = .ok (.aload_n 0, 1) := by decide +kernel
theorem dX10_copies_17 : decode cX10_copies 17 = .ok (.iload_n 1, 1) := by decide +kernel
theorem dX10_copies_18 : decode cX10_copies 18 = .ok (.iload 4, 2) := by decide +kernel
theorem dX10_copies_20 : decode cX10_copies 20 = .ok (.iadd, 1) := by decide +kernel
theorem dX10_copies_21 : decode cX10_copies 21 = .ok (.iaload, 1) := by decide +kernel
theorem dX10_copies_22 : decode cX10_copies 22 = .ok (.iastore, 1) := by decide +kernel
theorem dX10_copies_23 : decode cX10_copies 23 = .ok (.iinc 4 1, 3) := by decide +kernel
theorem dX10_copies_26 : decode cX10_copies 26 = .ok (.goto (-23), 3) := by decide +kernel
theorem dX10_copies_29 : decode cX10_copies 29 = .ok (.return_, 1) := by decide +kernel
theorem dX10_notes_0 : decode cX10_notes 0 = .ok (.aload_n 0, 1) := by decide +kernel
theorem dX10_notes_1 : decode cX10_notes 1 = .ok (.getfield 7, 3) := by decide +kernel
theorem dX10_notes_4 : decode cX10_notes 4 = .ok (.iconst 0, 1) := by decide +kernel
theorem dX10_notes_5 : decode cX10_notes 5 = .ok (.aload_n 0, 1) := by decide +kernel
theorem dX10_notes_6 : decode cX10_notes 6 = .ok (.getfield 16, 3) := by decide +kernel
theorem dX10_notes_9 : decode cX10_notes 9 = .ok (.iconst 0, 1) := by decide +kernel
theorem dX10_notes_10 : decode cX10_notes 10 = .ok (.invokestatic 37, 3) := by decide +kernel
theorem dX10_notes_13 : decode cX10_notes 13 = .ok (.return_, 1) := by decide +kernel
theorem dX10_ends_0 : decode cX10_ends 0 = .ok (.iload_n 1, 1) := by decide +kernel
theorem dX10_ends_1 : decode cX10_ends 1 = .ok (.ifCond .lt 77, 3) := by decide +kernel
theorem dX10_ends_4 : decode cX10_ends 4 = .ok (.aload_n 0, 1) := by decide +kernel
theorem dX10_ends_5 : decode cX10_ends 5 = .ok (.getfield 41, 3) := by decide +kernel
theorem dX10_ends_8 : decode cX10_ends 8 = .ok (.iconst 4, 1) := by decide +kernel
theorem dX10_ends_9 : decode cX10_ends 9 = .ok (.if_icmp .ne 39, 3) := by decide +kernel
theorem dX10_ends_12 : decode cX10_ends 12 = .ok (.iconst 0, 1) := by decide +kernel
theorem dX10_ends_13 : decode cX10_ends 13 = .ok (.istore_n 2, 1) := by decide +kernel
theorem dX10_ends_14 : decode cX10_ends 14 = .ok (.iload_n 2, 1) := by decide +kernel
theorem dX10_ends_15 : decode cX10_ends 15 = .ok (.sipush 1611, 3) := by decide +kernel
theorem dX10_ends_18 : decode cX10_ends 18 = .ok (.if_icmp .ge 25, 3) := by decide +kernel
theorem dX10_ends_21 : decode cX10_ends 21 = .ok (.aload_n 0, 1) := by decide +kernel
theorem dX10_ends_22 : decode cX10_ends 22 = .ok (.getfield 13, 3) := by decide +kernel
theorem dX10_ends_25 : decode cX10_ends 25 = .ok (.iload_n 2, 1) := by decide +kernel
theorem dX10_ends_26 : decode cX10_ends 26 = .ok (.aload_n 0, 1) := by decide +kernel
theorem dX10_ends_27 : decode cX10_ends 27 = .ok (.getfield 13, 3) := by decide +kernel
theorem dX10_ends_30 : decode cX10_ends 30 = .ok (.iload_n 2, 1) := by decide +kernel
theorem dX10_ends_31 : decode cX10_ends 31 = .ok (.sipush 537, 3) := by decide +kernel
theorem dX10_ends_34 : decode cX10_ends 34 = .ok (.iadd, 1) := by decide +kernel
theorem dX10_ends_35 : decode cX10_ends 35 = .ok (.iaload, 1) := by decide +kernel
theorem dX10_ends_36 : decode cX10_ends 36 = .ok (.iastore, 1) := by decide +kernel
theorem dX10_ends_37 : decode cX10_ends 37 = .ok (.iinc 2 1, 3) := by decide +kernel
theorem dX10_ends_40 : decode cX10_ends 40 = .ok (.goto (-26), 3) := by decide +kernel
theorem dX10_ends_43 : decode cX10_ends 43 = .ok (.aload_n 0, 1) := by decide +kernel
theorem dX10_ends_44 : decode cX10_ends 44 = .ok (.iconst 3, 1) := by decide +kernel
theorem dX10_ends_45 : decode cX10_ends 45 = .ok (.putfield 41, 3) := by decide +kernel
theorem dX10_ends_48 : decode cX10_ends 48 = .ok (.aload_n 0, 1) := by decide +kernel
theorem dX10_ends_49 : decode cX10_ends 49 = .ok (.getfield 16, 3) := by decide +kernel
theorem dX10_ends_52 : decode cX10_ends 52 = .ok (.iconst 0, 1) := by decide +kernel
theorem dX10_ends_53 : decode cX10_ends 53 = .ok (.aload_n 0, 1) := by decide +kernel
theorem dX10_ends_54 : decode cX10_ends 54 = .ok (.getfield 13, 3) := by decide +kernel
theorem dX10_ends_57 : decode cX10_ends 57 = .ok (.aload_n 0, 1) := by decide +kernel
theorem dX10_ends_58 : decode cX10_ends 58 = .ok (.getfield 41, 3) := by decide +kernel
theorem dX10_ends_61 : decode cX10_ends 61 = .ok (.sipush 537, 3) := by decide +kernel
theorem dX10_ends_64 : decode cX10_ends 64 = .ok (.imul, 1) := by decide +kernel
theorem dX10_ends_65 : decode cX10_ends 65 = .ok (.invokestatic 37, 3) := by decide +kernel
theorem dX10_ends_68 : decode cX10_ends 68 = .ok (.aload_n 0, 1) := by decide +kernel
theorem dX10_ends_69 : decode cX10_ends 69 = .ok (.dup, 1) := by decide +kernel
theorem dX10_ends_70 : decode cX10_ends 70 = .ok (.getfield 41, 3) := by decide +kernel
theorem dX10_ends_73 : decode cX10_ends 73 = .ok (.iconst 1, 1) := by decide +kernel
theorem dX10_ends_74 : decode cX10_ends 74 = .ok (.iadd, 1) := by decide +kernel
theorem dX10_ends_75 : decode cX10_ends 75 = .ok (.putfield 41, 3) := by decide +kernel
theorem dX10_ends_78 : decode cX10_ends 78 = .ok (.iload_n 1, 1) := by decide +kernel
theorem dX10_ends_79 : decode cX10_ends 79 = .ok (.ireturn, 1) := by decide +kernel
theorem dX10_isCorner_0 : decode cX10_isCorner 0 = .ok (.iload_n 1, 1) := by decide +kernel
theorem dX10_isCorner_1 : decode cX10_isCorner 1 = .ok (.iconst 0, 1) := by decide +kernel
theorem dX10_isCorner_2 : decode cX10_isCorner 2 = .ok (.aload_n 0, 1) := by decide +kernel
theorem dX10_isCorner_3 : decode cX10_isCorner 3 = .ok (.getfield 7, 3) := by decide +kernel
theorem dX10_isCorner_6 : decode cX10_isCorner 6 = .ok (.iconst 0, 1) := by decide +kernel
theorem dX10_isCorner_7 : decode cX10_isCorner 7 = .ok (.iaload, 1) := by decide +kernel
theorem dX10_isCorner_8 : decode cX10_isCorner 8 = .ok (.iconst 1, 1) := by decide +kernel
theorem dX10_isCorner_9 : decode cX10_isCorner 9 = .ok (.isub, 1) := by decide +kernel
theorem dX10_isCorner_10 : decode cX10_isCorner 10 = .ok (.invokestatic 45, 3) := by decide +kernel
theorem dX10_isCorner_13 : decode cX10_isCorner 13 = .ok (.ireturn, 1) := by decide +kernel
theorem dX10_isHouse_0 : decode cX10_isHouse 0 = .ok (.iload_n 1, 1) := by decide +kernel
theorem dX10_isHouse_1 : decode cX10_isHouse 1 = .ok (.iconst 0, 1) := by decide +kernel
theorem dX10_isHouse_2 : decode cX10_isHouse 2 = .ok (.aload_n 0, 1) := by decide +kernel
theorem dX10_isHouse_3 : decode cX10_isHouse 3 = .ok (.getfield 7, 3) := by decide +kernel
theorem dX10_isHouse_6 : decode cX10_isHouse 6 = .ok (.iconst 1, 1) := by decide +kernel
theorem dX10_isHouse_7 : decode cX10_isHouse 7 = .ok (.iaload, 1) := by decide +kernel
theorem dX10_isHouse_8 : decode cX10_isHouse 8 = .ok (.iconst 1, 1) := by decide +kernel
theorem dX10_isHouse_9 : decode cX10_isHouse 9 = .ok (.isub, 1) := by decide +kernel
theorem dX10_isHouse_10 : decode cX10_isHouse 10 = .ok (.invokestatic 45, 3) := by decide +kernel
theorem dX10_isHouse_13 : decode cX10_isHouse 13 = .ok (.ireturn, 1) := by decide +kernel
theorem dX10_isCarrier_0 : decode cX10_isCarrier 0 = .ok (.iload_n 1, 1) := by decide +kernel
theorem dX10_isCarrier_1 : decode cX10_isCarrier 1 = .ok (.iconst 0, 1) := by decide +kernel
theorem dX10_isCarrier_2 : decode cX10_isCarrier 2 = .ok (.aload_n 0, 1) := by decide +kernel
theorem dX10_isCarrier_3 : decode cX10_isCarrier 3 = .ok (.getfield 7, 3) := by decide +kernel
theorem dX10_isCarrier_6 : decode cX10_isCarrier 6 = .ok (.iconst 2, 1) := by decide +kernel
theorem dX10_isCarrier_7 : decode cX10_isCarrier 7 = .ok (.iaload, 1) := by decide +kernel
theorem dX10_isCarrier_8 : decode cX10_isCarrier 8 = .ok (.iconst 1, 1) := by decide +kernel
theorem dX10_isCarrier_9 : decode cX10_isCarrier 9 = .ok (.isub, 1) := by decide +kernel
theorem dX10_isCarrier_10 : decode cX10_isCarrier 10 = .ok (.invokestatic 45, 3) := by decide +kernel
theorem dX10_isCarrier_13 : decode cX10_isCarrier 13 = .ok (.ireturn, 1) := by decide +kernel
theorem dX10_ofCorner_0 : decode cX10_ofCorner 0 = .ok (.aload_n 0, 1) := by decide +kernel
theorem dX10_ofCorner_1 : decode cX10_ofCorner 1 = .ok (.getfield 7, 3) := by decide +kernel
theorem dX10_ofCorner_4 : decode cX10_ofCorner 4 = .ok (.bipush 10, 2) := by decide +kernel
theorem dX10_ofCorner_6 : decode cX10_ofCorner 6 = .ok (.iconst 4, 1) := by decide +kernel
theorem dX10_ofCorner_7 : decode cX10_ofCorner 7 = .ok (.iload_n 1, 1) := by decide +kernel
theorem dX10_ofCorner_8 : decode cX10_ofCorner 8 = .ok (.imul, 1) := by decide +kernel
theorem dX10_ofCorner_9 : decode cX10_ofCorner 9 = .ok (.iadd, 1) := by decide +kernel
theorem dX10_ofCorner_10 : decode cX10_ofCorner 10 = .ok (.iload_n 2, 1) := by decide +kernel
theorem dX10_ofCorner_11 : decode cX10_ofCorner 11 = .ok (.iadd, 1) := by decide +kernel
theorem dX10_ofCorner_12 : decode cX10_ofCorner 12 = .ok (.iaload, 1) := by decide +kernel
theorem dX10_ofCorner_13 : decode cX10_ofCorner 13 = .ok (.ireturn, 1) := by decide +kernel
theorem dX10_of_0 : decode cX10_of 0 = .ok (.aload_n 0, 1) := by decide +kernel
theorem dX10_of_1 : decode cX10_of 1 = .ok (.getfield 7, 3) := by decide +kernel
theorem dX10_of_4 : decode cX10_of 4 = .ok (.bipush 90, 2) := by decide +kernel
theorem dX10_of_6 : decode cX10_of 6 = .ok (.bipush 14, 2) := by decide +kernel
theorem dX10_of_8 : decode cX10_of 8 = .ok (.iload_n 1, 1) := by decide +kernel
theorem dX10_of_9 : decode cX10_of 9 = .ok (.imul, 1) := by decide +kernel
theorem dX10_of_10 : decode cX10_of 10 = .ok (.iadd, 1) := by decide +kernel
theorem dX10_of_11 : decode cX10_of 11 = .ok (.iload_n 2, 1) := by decide +kernel
theorem dX10_of_12 : decode cX10_of 12 = .ok (.iadd, 1) := by decide +kernel
theorem dX10_of_13 : decode cX10_of 13 = .ok (.iaload, 1) := by decide +kernel
theorem dX10_of_14 : decode cX10_of 14 = .ok (.ireturn, 1) := by decide +kernel
theorem dX10_lays_0 : decode cX10_lays 0 = .ok (.aload_n 0, 1) := by decide +kernel
theorem dX10_lays_1 : decode cX10_lays 1 = .ok (.getfield 7, 3) := by decide +kernel
theorem dX10_lays_4 : decode cX10_lays 4 = .ok (.bipush 90, 2) := by decide +kernel
theorem dX10_lays_6 : decode cX10_lays 6 = .ok (.bipush 14, 2) := by decide +kernel
theorem dX10_lays_8 : decode cX10_lays 8 = .ok (.iload_n 1, 1) := by decide +kernel
theorem dX10_lays_9 : decode cX10_lays 9 = .ok (.imul, 1) := by decide +kernel
theorem dX10_lays_10 : decode cX10_lays 10 = .ok (.iadd, 1) := by decide +kernel
theorem dX10_lays_11 : decode cX10_lays 11 = .ok (.iload_n 2, 1) := by decide +kernel
theorem dX10_lays_12 : decode cX10_lays 12 = .ok (.iadd, 1) := by decide +kernel
theorem dX10_lays_13 : decode cX10_lays 13 = .ok (.iload_n 3, 1) := by decide +kernel
theorem dX10_lays_14 : decode cX10_lays 14 = .ok (.iastore, 1) := by decide +kernel
theorem dX10_lays_15 : decode cX10_lays 15 = .ok (.return_, 1) := by decide +kernel
theorem dX10_ofCarrier_0 : decode cX10_ofCarrier 0 = .ok (.aload_n 0, 1) := by decide +kernel
theorem dX10_ofCarrier_1 : decode cX10_ofCarrier 1 = .ok (.getfield 7, 3) := by decide +kernel
theorem dX10_ofCarrier_4 : decode cX10_ofCarrier 4 = .ok (.sipush 426, 3) := by decide +kernel
theorem dX10_ofCarrier_7 : decode cX10_ofCarrier 7 = .ok (.bipush 7, 2) := by decide +kernel
theorem dX10_ofCarrier_9 : decode cX10_ofCarrier 9 = .ok (.iload_n 1, 1) := by decide +kernel
theorem dX10_ofCarrier_10 : decode cX10_ofCarrier 10 = .ok (.imul, 1) := by decide +kernel
theorem dX10_ofCarrier_11 : decode cX10_ofCarrier 11 = .ok (.iadd, 1) := by decide +kernel
theorem dX10_ofCarrier_12 : decode cX10_ofCarrier 12 = .ok (.iload_n 2, 1) := by decide +kernel
theorem dX10_ofCarrier_13 : decode cX10_ofCarrier 13 = .ok (.iadd, 1) := by decide +kernel
theorem dX10_ofCarrier_14 : decode cX10_ofCarrier 14 = .ok (.iaload, 1) := by decide +kernel
theorem dX10_ofCarrier_15 : decode cX10_ofCarrier 15 = .ok (.ireturn, 1) := by decide +kernel
theorem dX10_addsCarrier_0 : decode cX10_addsCarrier 0 = .ok (.aload_n 0, 1) := by decide +kernel
theorem dX10_addsCarrier_1 : decode cX10_addsCarrier 1 = .ok (.getfield 7, 3) := by decide +kernel
theorem dX10_addsCarrier_4 : decode cX10_addsCarrier 4 = .ok (.sipush 426, 3) := by decide +kernel
theorem dX10_addsCarrier_7 : decode cX10_addsCarrier 7 = .ok (.bipush 7, 2) := by decide +kernel
theorem dX10_addsCarrier_9 : decode cX10_addsCarrier 9 = .ok (.iload_n 1, 1) := by decide +kernel
theorem dX10_addsCarrier_10 : decode cX10_addsCarrier 10 = .ok (.imul, 1) := by decide +kernel
theorem dX10_addsCarrier_11 : decode cX10_addsCarrier 11 = .ok (.iadd, 1) := by decide +kernel
theorem dX10_addsCarrier_12 : decode cX10_addsCarrier 12 = .ok (.iload_n 2, 1) := by decide +kernel
theorem dX10_addsCarrier_13 : decode cX10_addsCarrier 13 = .ok (.iadd, 1) := by decide +kernel
theorem dX10_addsCarrier_14 : decode cX10_addsCarrier 14 = .ok (.dup2, 1) := by decide +kernel
theorem dX10_addsCarrier_15 : decode cX10_addsCarrier 15 = .ok (.iaload, 1) := by decide +kernel
theorem dX10_addsCarrier_16 : decode cX10_addsCarrier 16 = .ok (.iload_n 3, 1) := by decide +kernel
theorem dX10_addsCarrier_17 : decode cX10_addsCarrier 17 = .ok (.iadd, 1) := by decide +kernel
theorem dX10_addsCarrier_18 : decode cX10_addsCarrier 18 = .ok (.iastore, 1) := by decide +kernel
theorem dX10_addsCarrier_19 : decode cX10_addsCarrier 19 = .ok (.return_, 1) := by decide +kernel
theorem dX10_isBeyond_0 : decode cX10_isBeyond 0 = .ok (.iload_n 1, 1) := by decide +kernel
theorem dX10_isBeyond_1 : decode cX10_isBeyond 1 = .ok (.istore_n 3, 1) := by decide +kernel
theorem dX10_isBeyond_2 : decode cX10_isBeyond 2 = .ok (.iload_n 3, 1) := by decide +kernel
theorem dX10_isBeyond_3 : decode cX10_isBeyond 3 = .ok (.iload_n 2, 1) := by decide +kernel
theorem dX10_isBeyond_4 : decode cX10_isBeyond 4 = .ok (.if_icmp .le 13, 3) := by decide +kernel
theorem dX10_isBeyond_7 : decode cX10_isBeyond 7 = .ok (.aload_n 0, 1) := by decide +kernel
theorem dX10_isBeyond_8 : decode cX10_isBeyond 8 = .ok (.iload_n 3, 1) := by decide +kernel
theorem dX10_isBeyond_9 : decode cX10_isBeyond 9 = .ok (.iconst 0, 1) := by decide +kernel
theorem dX10_isBeyond_10 : decode cX10_isBeyond 10 = .ok (.invokevirtual 49, 3) := by decide +kernel
theorem dX10_isBeyond_13 : decode cX10_isBeyond 13 = .ok (.istore_n 3, 1) := by decide +kernel
theorem dX10_isBeyond_14 : decode cX10_isBeyond 14 = .ok (.goto (-12), 3) := by decide +kernel
theorem dX10_isBeyond_17 : decode cX10_isBeyond 17 = .ok (.iload_n 3, 1) := by decide +kernel
theorem dX10_isBeyond_18 : decode cX10_isBeyond 18 = .ok (.iload_n 2, 1) := by decide +kernel
theorem dX10_isBeyond_19 : decode cX10_isBeyond 19 = .ok (.if_icmp .ne 7, 3) := by decide +kernel
theorem dX10_isBeyond_22 : decode cX10_isBeyond 22 = .ok (.iconst 1, 1) := by decide +kernel
theorem dX10_isBeyond_23 : decode cX10_isBeyond 23 = .ok (.goto 4, 3) := by decide +kernel
theorem dX10_isBeyond_26 : decode cX10_isBeyond 26 = .ok (.iconst 0, 1) := by decide +kernel
theorem dX10_isBeyond_27 : decode cX10_isBeyond 27 = .ok (.ireturn, 1) := by decide +kernel
theorem dX10_cartsCome_0 : decode cX10_cartsCome 0 = .ok (.iconst 1, 1) := by decide +kernel
theorem dX10_cartsCome_1 : decode cX10_cartsCome 1 = .ok (.istore_n 2, 1) := by decide +kernel
theorem dX10_cartsCome_2 : decode cX10_cartsCome 2 = .ok (.iload_n 1, 1) := by decide +kernel
theorem dX10_cartsCome_3 : decode cX10_cartsCome 3 = .ok (.istore_n 3, 1) := by decide +kernel
theorem dX10_cartsCome_4 : decode cX10_cartsCome 4 = .ok (.iload_n 3, 1) := by decide +kernel
theorem dX10_cartsCome_5 : decode cX10_cartsCome 5 = .ok (.ifCond .le 32, 3) := by decide +kernel
theorem dX10_cartsCome_8 : decode cX10_cartsCome 8 = .ok (.iload_n 2, 1) := by decide +kernel
theorem dX10_cartsCome_9 : decode cX10_cartsCome 9 = .ok (.ifCond .eq 16, 3) := by decide +kernel
theorem dX10_cartsCome_12 : decode cX10_cartsCome 12 = .ok (.aload_n 0, 1) := by decide +kernel
theorem dX10_cartsCome_13 : decode cX10_cartsCome 13 = .ok (.iload_n 3, 1) := by decide +kernel
theorem dX10_cartsCome_14 : decode cX10_cartsCome 14 = .ok (.iconst 3, 1) := by decide +kernel
theorem dX10_cartsCome_15 : decode cX10_cartsCome 15 = .ok (.invokevirtual 49, 3) := by decide +kernel
theorem dX10_cartsCome_18 : decode cX10_cartsCome 18 = .ok (.ifCond .ne 7, 3) := by decide +kernel
theorem dX10_cartsCome_21 : decode cX10_cartsCome 21 = .ok (.iconst 1, 1) := by decide +kernel
theorem dX10_cartsCome_22 : decode cX10_cartsCome 22 = .ok (.goto 4, 3) := by decide +kernel
theorem dX10_cartsCome_25 : decode cX10_cartsCome 25 = .ok (.iconst 0, 1) := by decide +kernel
theorem dX10_cartsCome_26 : decode cX10_cartsCome 26 = .ok (.istore_n 2, 1) := by decide +kernel
theorem dX10_cartsCome_27 : decode cX10_cartsCome 27 = .ok (.aload_n 0, 1) := by decide +kernel
theorem dX10_cartsCome_28 : decode cX10_cartsCome 28 = .ok (.iload_n 3, 1) := by decide +kernel
theorem dX10_cartsCome_29 : decode cX10_cartsCome 29 = .ok (.iconst 0, 1) := by decide +kernel
theorem dX10_cartsCome_30 : decode cX10_cartsCome 30 = .ok (.invokevirtual 49, 3) := by decide +kernel
theorem dX10_cartsCome_33 : decode cX10_cartsCome 33 = .ok (.istore_n 3, 1) := by decide +kernel
theorem dX10_cartsCome_34 : decode cX10_cartsCome 34 = .ok (.goto (-30), 3) := by decide +kernel
theorem dX10_cartsCome_37 : decode cX10_cartsCome 37 = .ok (.iload_n 2, 1) := by decide +kernel
theorem dX10_cartsCome_38 : decode cX10_cartsCome 38 = .ok (.ireturn, 1) := by decide +kernel
theorem dX10_farOf_0 : decode cX10_farOf 0 = .ok (.iconst 0, 1) := by decide +kernel
theorem dX10_farOf_1 : decode cX10_farOf 1 = .ok (.istore_n 2, 1) := by decide +kernel
theorem dX10_farOf_2 : decode cX10_farOf 2 = .ok (.iload_n 1, 1) := by decide +kernel
theorem dX10_farOf_3 : decode cX10_farOf 3 = .ok (.istore_n 3, 1) := by decide +kernel
theorem dX10_farOf_4 : decode cX10_farOf 4 = .ok (.iload_n 3, 1) := by decide +kernel
theorem dX10_farOf_5 : decode cX10_farOf 5 = .ok (.ifCond .le 22, 3) := by decide +kernel
theorem dX10_farOf_8 : decode cX10_farOf 8 = .ok (.iload_n 2, 1) := by decide +kernel
theorem dX10_farOf_9 : decode cX10_farOf 9 = .ok (.aload_n 0, 1) := by decide +kernel
theorem dX10_farOf_10 : decode cX10_farOf 10 = .ok (.iload_n 3, 1) := by decide +kernel
theorem dX10_farOf_11 : decode cX10_farOf 11 = .ok (.iconst 1, 1) := by decide +kernel
theorem dX10_farOf_12 : decode cX10_farOf 12 = .ok (.invokevirtual 49, 3) := by decide +kernel
theorem dX10_farOf_15 : decode cX10_farOf 15 = .ok (.iadd, 1) := by decide +kernel
theorem dX10_farOf_16 : decode cX10_farOf 16 = .ok (.istore_n 2, 1) := by decide +kernel
theorem dX10_farOf_17 : decode cX10_farOf 17 = .ok (.aload_n 0, 1) := by decide +kernel
theorem dX10_farOf_18 : decode cX10_farOf 18 = .ok (.iload_n 3, 1) := by decide +kernel
theorem dX10_farOf_19 : decode cX10_farOf 19 = .ok (.iconst 0, 1) := by decide +kernel
theorem dX10_farOf_20 : decode cX10_farOf 20 = .ok (.invokevirtual 49, 3) := by decide +kernel
theorem dX10_farOf_23 : decode cX10_farOf 23 = .ok (.istore_n 3, 1) := by decide +kernel
theorem dX10_farOf_24 : decode cX10_farOf 24 = .ok (.goto (-20), 3) := by decide +kernel
theorem dX10_farOf_27 : decode cX10_farOf 27 = .ok (.iload_n 2, 1) := by decide +kernel
theorem dX10_farOf_28 : decode cX10_farOf 28 = .ok (.ireturn, 1) := by decide +kernel
theorem dX10_laysRow_0 : decode cX10_laysRow 0 = .ok (.aload_n 0, 1) := by decide +kernel
theorem dX10_laysRow_1 : decode cX10_laysRow 1 = .ok (.getfield 25, 3) := by decide +kernel
theorem dX10_laysRow_4 : decode cX10_laysRow 4 = .ok (.iconst 0, 1) := by decide +kernel
theorem dX10_laysRow_5 : decode cX10_laysRow 5 = .ok (.iconst 0, 1) := by decide +kernel
theorem dX10_laysRow_6 : decode cX10_laysRow 6 = .ok (.iastore, 1) := by decide +kernel
theorem dX10_laysRow_7 : decode cX10_laysRow 7 = .ok (.iconst 1, 1) := by decide +kernel
theorem dX10_laysRow_8 : decode cX10_laysRow 8 = .ok (.istore_n 1, 1) := by decide +kernel
theorem dX10_laysRow_9 : decode cX10_laysRow 9 = .ok (.iload_n 1, 1) := by decide +kernel
theorem dX10_laysRow_10 : decode cX10_laysRow 10 = .ok (.aload_n 0, 1) := by decide +kernel
theorem dX10_laysRow_11 : decode cX10_laysRow 11 = .ok (.getfield 7, 3) := by decide +kernel
theorem dX10_laysRow_14 : decode cX10_laysRow 14 = .ok (.iconst 0, 1) := by decide +kernel
theorem dX10_laysRow_15 : decode cX10_laysRow 15 = .ok (.iaload, 1) := by decide +kernel
theorem dX10_laysRow_16 : decode cX10_laysRow 16 = .ok (.if_icmp .ge 59, 3) := by decide +kernel
theorem dX10_laysRow_19 : decode cX10_laysRow 19 = .ok (.iload_n 1, 1) := by decide +kernel
theorem dX10_laysRow_20 : decode cX10_laysRow 20 = .ok (.istore_n 2, 1) := by decide +kernel
theorem dX10_laysRow_21 : decode cX10_laysRow 21 = .ok (.aload_n 0, 1) := by decide +kernel
theorem dX10_laysRow_22 : decode cX10_laysRow 22 = .ok (.aload_n 0, 1) := by decide +kernel
theorem dX10_laysRow_23 : decode cX10_laysRow 23 = .ok (.getfield 25, 3) := by decide +kernel
theorem dX10_laysRow_26 : decode cX10_laysRow 26 = .ok (.iload_n 2, 1) := by decide +kernel
theorem dX10_laysRow_27 : decode cX10_laysRow 27 = .ok (.iconst 1, 1) := by decide +kernel
theorem dX10_laysRow_28 : decode cX10_laysRow 28 = .ok (.isub, 1) := by decide +kernel
theorem dX10_laysRow_29 : decode cX10_laysRow 29 = .ok (.iaload, 1) := by decide +kernel
theorem dX10_laysRow_30 : decode cX10_laysRow 30 = .ok (.aload_n 0, 1) := by decide +kernel
theorem dX10_laysRow_31 : decode cX10_laysRow 31 = .ok (.iload_n 1, 1) := by decide +kernel
theorem dX10_laysRow_32 : decode cX10_laysRow 32 = .ok (.iconst 0, 1) := by decide +kernel
theorem dX10_laysRow_33 : decode cX10_laysRow 33 = .ok (.invokevirtual 49, 3) := by decide +kernel
theorem dX10_laysRow_36 : decode cX10_laysRow 36 = .ok (.invokevirtual 53, 3) := by decide +kernel
theorem dX10_laysRow_39 : decode cX10_laysRow 39 = .ok (.ifCond .ne 23, 3) := by decide +kernel
theorem dX10_laysRow_42 : decode cX10_laysRow 42 = .ok (.aload_n 0, 1) := by decide +kernel
theorem dX10_laysRow_43 : decode cX10_laysRow 43 = .ok (.getfield 25, 3) := by decide +kernel
theorem dX10_laysRow_46 : decode cX10_laysRow 46 = .ok (.iload_n 2, 1) := by decide +kernel
theorem dX10_laysRow_47 : decode cX10_laysRow 47 = .ok (.aload_n 0, 1) := by decide +kernel
theorem dX10_laysRow_48 : decode cX10_laysRow 48 = .ok (.getfield 25, 3) := by decide +kernel
theorem dX10_laysRow_51 : decode cX10_laysRow 51 = .ok (.iload_n 2, 1) := by decide +kernel
theorem dX10_laysRow_52 : decode cX10_laysRow 52 = .ok (.iconst 1, 1) := by decide +kernel
theorem dX10_laysRow_53 : decode cX10_laysRow 53 = .ok (.isub, 1) := by decide +kernel
theorem dX10_laysRow_54 : decode cX10_laysRow 54 = .ok (.iaload, 1) := by decide +kernel
theorem dX10_laysRow_55 : decode cX10_laysRow 55 = .ok (.iastore, 1) := by decide +kernel
theorem dX10_laysRow_56 : decode cX10_laysRow 56 = .ok (.iinc 2 (-1), 3) := by decide +kernel
theorem dX10_laysRow_59 : decode cX10_laysRow 59 = .ok (.goto (-38), 3) := by decide +kernel
theorem dX10_laysRow_62 : decode cX10_laysRow 62 = .ok (.aload_n 0, 1) := by decide +kernel
theorem dX10_laysRow_63 : decode cX10_laysRow 63 = .ok (.getfield 25, 3) := by decide +kernel
theorem dX10_laysRow_66 : decode cX10_laysRow 66 = .ok (.iload_n 2, 1) := by decide +kernel
theorem dX10_laysRow_67 : decode cX10_laysRow 67 = .ok (.iload_n 1, 1) := by decide +kernel
theorem dX10_laysRow_68 : decode cX10_laysRow 68 = .ok (.iastore, 1) := by decide +kernel
theorem dX10_laysRow_69 : decode cX10_laysRow 69 = .ok (.iinc 1 1, 3) := by decide +kernel
theorem dX10_laysRow_72 : decode cX10_laysRow 72 = .ok (.goto (-63), 3) := by decide +kernel
theorem dX10_laysRow_75 : decode cX10_laysRow 75 = .ok (.iconst 0, 1) := by decide +kernel
theorem dX10_laysRow_76 : decode cX10_laysRow 76 = .ok (.istore_n 1, 1) := by decide +kernel
theorem dX10_laysRow_77 : decode cX10_laysRow 77 = .ok (.iconst 0, 1) := by decide +kernel
theorem dX10_laysRow_78 : decode cX10_laysRow 78 = .ok (.istore_n 2, 1) := by decide +kernel
theorem dX10_laysRow_79 : decode cX10_laysRow 79 = .ok (.iload_n 2, 1) := by decide +kernel
theorem dX10_laysRow_80 : decode cX10_laysRow 80 = .ok (.aload_n 0, 1) := by decide +kernel
theorem dX10_laysRow_81 : decode cX10_laysRow 81 = .ok (.getfield 7, 3) := by decide +kernel
theorem dX10_laysRow_84 : decode cX10_laysRow 84 = .ok (.iconst 0, 1) := by decide +kernel
theorem dX10_laysRow_85 : decode cX10_laysRow 85 = .ok (.iaload, 1) := by decide +kernel
theorem dX10_laysRow_86 : decode cX10_laysRow 86 = .ok (.if_icmp .ge 52, 3) := by decide +kernel
theorem dX10_laysRow_89 : decode cX10_laysRow 89 = .ok (.iconst 0, 1) := by decide +kernel
theorem dX10_laysRow_90 : decode cX10_laysRow 90 = .ok (.istore_n 3, 1) := by decide +kernel
theorem dX10_laysRow_91 : decode cX10_laysRow 91 = .ok (.iload_n 3, 1) := by decide +kernel
theorem dX10_laysRow_92 : decode cX10_laysRow 92 = .ok (.aload_n 0, 1) := by decide +kernel
theorem dX10_laysRow_93 : decode cX10_laysRow 93 = .ok (.getfield 7, 3) := by decide +kernel
theorem dX10_laysRow_96 : decode cX10_laysRow 96 = .ok (.iconst 1, 1) := by decide +kernel
theorem dX10_laysRow_97 : decode cX10_laysRow 97 = .ok (.iaload, 1) := by decide +kernel
theorem dX10_laysRow_98 : decode cX10_laysRow 98 = .ok (.if_icmp .ge 34, 3) := by decide +kernel
theorem dX10_laysRow_101 : decode cX10_laysRow 101 = .ok (.aload_n 0, 1) := by decide +kernel
theorem dX10_laysRow_102 : decode cX10_laysRow 102 = .ok (.iload_n 3, 1) := by decide +kernel
theorem dX10_laysRow_103 : decode cX10_laysRow 103 = .ok (.iconst 0, 1) := by decide +kernel
theorem dX10_laysRow_104 : decode cX10_laysRow 104 = .ok (.invokevirtual 57, 3) := by decide +kernel
theorem dX10_laysRow_107 : decode cX10_laysRow 107 = .ok (.aload_n 0, 1) := by decide +kernel
theorem dX10_laysRow_108 : decode cX10_laysRow 108 = .ok (.getfield 25, 3) := by decide +kernel
theorem dX10_laysRow_111 : decode cX10_laysRow 111 = .ok (.iload_n 2, 1) := by decide +kernel
theorem dX10_laysRow_112 : decode cX10_laysRow 112 = .ok (.iaload, 1) := by decide +kernel
theorem dX10_laysRow_113 : decode cX10_laysRow 113 = .ok (.if_icmp .ne 13, 3) := by decide +kernel
theorem dX10_laysRow_116 : decode cX10_laysRow 116 = .ok (.aload_n 0, 1) := by decide +kernel
theorem dX10_laysRow_117 : decode cX10_laysRow 117 = .ok (.getfield 28, 3) := by decide +kernel
theorem dX10_laysRow_120 : decode cX10_laysRow 120 = .ok (.iload_n 1, 1) := by decide +kernel
theorem dX10_laysRow_121 : decode cX10_laysRow 121 = .ok (.iload_n 3, 1) := by decide +kernel
theorem dX10_laysRow_122 : decode cX10_laysRow 122 = .ok (.iastore, 1) := by decide +kernel
theorem dX10_laysRow_123 : decode cX10_laysRow 123 = .ok (.iinc 1 1, 3) := by decide +kernel
theorem dX10_laysRow_126 : decode cX10_laysRow 126 = .ok (.iinc 3 1, 3) := by decide +kernel
theorem dX10_laysRow_129 : decode cX10_laysRow 129 = .ok (.goto (-38), 3) := by decide +kernel
theorem dX10_laysRow_132 : decode cX10_laysRow 132 = .ok (.iinc 2 1, 3) := by decide +kernel
theorem dX10_laysRow_135 : decode cX10_laysRow 135 = .ok (.goto (-56), 3) := by decide +kernel
theorem dX10_laysRow_138 : decode cX10_laysRow 138 = .ok (.return_, 1) := by decide +kernel
theorem dX10_corner_0 : decode cX10_corner 0 = .ok (.aload_n 0, 1) := by decide +kernel
theorem dX10_corner_1 : decode cX10_corner 1 = .ok (.iload_n 1, 1) := by decide +kernel
theorem dX10_corner_2 : decode cX10_corner 2 = .ok (.invokevirtual 60, 3) := by decide +kernel
theorem dX10_corner_5 : decode cX10_corner 5 = .ok (.ifCond .eq 33, 3) := by decide +kernel
theorem dX10_corner_8 : decode cX10_corner 8 = .ok (.iload_n 2, 1) := by decide +kernel
theorem dX10_corner_9 : decode cX10_corner 9 = .ok (.iconst 1, 1) := by decide +kernel
theorem dX10_corner_10 : decode cX10_corner 10 = .ok (.bipush 50, 2) := by decide +kernel
theorem dX10_corner_12 : decode cX10_corner 12 = .ok (.invokestatic 45, 3) := by decide +kernel
theorem dX10_corner_15 : decode cX10_corner 15 = .ok (.ifCond .eq 23, 3) := by decide +kernel
theorem dX10_corner_18 : decode cX10_corner 18 = .ok (.iload_n 3, 1) := by decide +kernel
theorem dX10_corner_19 : decode cX10_corner 19 = .ok (.iconst 0, 1) := by decide +kernel
theorem dX10_corner_20 : decode cX10_corner 20 = .ok (.bipush 100, 2) := by decide +kernel
theorem dX10_corner_22 : decode cX10_corner 22 = .ok (.invokestatic 45, 3) := by decide +kernel
theorem dX10_corner_25 : decode cX10_corner 25 = .ok (.ifCond .eq 13, 3) := by decide +kernel
theorem dX10_corner_28 : decode cX10_corner 28 = .ok (.iload 4, 2) := by decide +kernel
theorem dX10_corner_30 : decode cX10_corner 30 = .ok (.iconst 0, 1) := by decide +kernel
theorem dX10_corner_31 : decode cX10_corner 31 = .ok (.iconst 1, 1) := by decide +kernel
theorem dX10_corner_32 : decode cX10_corner 32 = .ok (.invokestatic 45, 3) := by decide +kernel
theorem dX10_corner_35 : decode cX10_corner 35 = .ok (.ifCond .ne 5, 3) := by decide +kernel
theorem dX10_corner_38 : decode cX10_corner 38 = .ok (.iconst (-1), 1) := by decide +kernel
theorem dX10_corner_39 : decode cX10_corner 39 = .ok (.ireturn, 1) := by decide +kernel
theorem dX10_corner_40 : decode cX10_corner 40 = .ok (.aload_n 0, 1) := by decide +kernel
theorem dX10_corner_41 : decode cX10_corner 41 = .ok (.getfield 7, 3) := by decide +kernel
theorem dX10_corner_44 : decode cX10_corner 44 = .ok (.iconst 0, 1) := by decide +kernel
theorem dX10_corner_45 : decode cX10_corner 45 = .ok (.iaload, 1) := by decide +kernel
theorem dX10_corner_46 : decode cX10_corner 46 = .ok (.bipush 20, 2) := by decide +kernel
theorem dX10_corner_48 : decode cX10_corner 48 = .ok (.if_icmp .ne 6, 3) := by decide +kernel
theorem dX10_corner_51 : decode cX10_corner 51 = .ok (.bipush (-3), 2) := by decide +kernel
theorem dX10_corner_53 : decode cX10_corner 53 = .ok (.ireturn, 1) := by decide +kernel
theorem dX10_corner_54 : decode cX10_corner 54 = .ok (.aload_n 0, 1) := by decide +kernel
theorem dX10_corner_55 : decode cX10_corner 55 = .ok (.invokevirtual 64, 3) := by decide +kernel
theorem dX10_corner_58 : decode cX10_corner 58 = .ok (.bipush 10, 2) := by decide +kernel
theorem dX10_corner_60 : decode cX10_corner 60 = .ok (.iconst 4, 1) := by decide +kernel
theorem dX10_corner_61 : decode cX10_corner 61 = .ok (.aload_n 0, 1) := by decide +kernel
theorem dX10_corner_62 : decode cX10_corner 62 = .ok (.getfield 7, 3) := by decide +kernel
theorem dX10_corner_65 : decode cX10_corner 65 = .ok (.iconst 0, 1) := by decide +kernel
theorem dX10_corner_66 : decode cX10_corner 66 = .ok (.iaload, 1) := by decide +kernel
theorem dX10_corner_67 : decode cX10_corner 67 = .ok (.imul, 1) := by decide +kernel
theorem dX10_corner_68 : decode cX10_corner 68 = .ok (.iadd, 1) := by decide +kernel
theorem dX10_corner_69 : decode cX10_corner 69 = .ok (.istore 5, 2) := by decide +kernel
theorem dX10_corner_71 : decode cX10_corner 71 = .ok (.aload_n 0, 1) := by decide +kernel
theorem dX10_corner_72 : decode cX10_corner 72 = .ok (.getfield 7, 3) := by decide +kernel
theorem dX10_corner_75 : decode cX10_corner 75 = .ok (.iload 5, 2) := by decide +kernel
theorem dX10_corner_77 : decode cX10_corner 77 = .ok (.iconst 0, 1) := by decide +kernel
theorem dX10_corner_78 : decode cX10_corner 78 = .ok (.iadd, 1) := by decide +kernel
theorem dX10_corner_79 : decode cX10_corner 79 = .ok (.iload_n 1, 1) := by decide +kernel
theorem dX10_corner_80 : decode cX10_corner 80 = .ok (.iastore, 1) := by decide +kernel
theorem dX10_corner_81 : decode cX10_corner 81 = .ok (.aload_n 0, 1) := by decide +kernel
theorem dX10_corner_82 : decode cX10_corner 82 = .ok (.getfield 7, 3) := by decide +kernel
theorem dX10_corner_85 : decode cX10_corner 85 = .ok (.iload 5, 2) := by decide +kernel
theorem dX10_corner_87 : decode cX10_corner 87 = .ok (.iconst 1, 1) := by decide +kernel
theorem dX10_corner_88 : decode cX10_corner 88 = .ok (.iadd, 1) := by decide +kernel
theorem dX10_corner_89 : decode cX10_corner 89 = .ok (.iload_n 2, 1) := by decide +kernel
theorem dX10_corner_90 : decode cX10_corner 90 = .ok (.iastore, 1) := by decide +kernel
theorem dX10_corner_91 : decode cX10_corner 91 = .ok (.aload_n 0, 1) := by decide +kernel
theorem dX10_corner_92 : decode cX10_corner 92 = .ok (.getfield 7, 3) := by decide +kernel
theorem dX10_corner_95 : decode cX10_corner 95 = .ok (.iload 5, 2) := by decide +kernel
theorem dX10_corner_97 : decode cX10_corner 97 = .ok (.iconst 2, 1) := by decide +kernel
theorem dX10_corner_98 : decode cX10_corner 98 = .ok (.iadd, 1) := by decide +kernel
theorem dX10_corner_99 : decode cX10_corner 99 = .ok (.iload_n 3, 1) := by decide +kernel
theorem dX10_corner_100 : decode cX10_corner 100 = .ok (.iastore, 1) := by decide +kernel
theorem dX10_corner_101 : decode cX10_corner 101 = .ok (.aload_n 0, 1) := by decide +kernel
theorem dX10_corner_102 : decode cX10_corner 102 = .ok (.getfield 7, 3) := by decide +kernel
theorem dX10_corner_105 : decode cX10_corner 105 = .ok (.iload 5, 2) := by decide +kernel
theorem dX10_corner_107 : decode cX10_corner 107 = .ok (.iconst 3, 1) := by decide +kernel
theorem dX10_corner_108 : decode cX10_corner 108 = .ok (.iadd, 1) := by decide +kernel
theorem dX10_corner_109 : decode cX10_corner 109 = .ok (.iload 4, 2) := by decide +kernel
theorem dX10_corner_111 : decode cX10_corner 111 = .ok (.iastore, 1) := by decide +kernel
theorem dX10_corner_112 : decode cX10_corner 112 = .ok (.aload_n 0, 1) := by decide +kernel
theorem dX10_corner_113 : decode cX10_corner 113 = .ok (.getfield 7, 3) := by decide +kernel
theorem dX10_corner_116 : decode cX10_corner 116 = .ok (.iconst 0, 1) := by decide +kernel
theorem dX10_corner_117 : decode cX10_corner 117 = .ok (.dup2, 1) := by decide +kernel
theorem dX10_corner_118 : decode cX10_corner 118 = .ok (.iaload, 1) := by decide +kernel
theorem dX10_corner_119 : decode cX10_corner 119 = .ok (.iconst 1, 1) := by decide +kernel
theorem dX10_corner_120 : decode cX10_corner 120 = .ok (.iadd, 1) := by decide +kernel
theorem dX10_corner_121 : decode cX10_corner 121 = .ok (.iastore, 1) := by decide +kernel
theorem dX10_corner_122 : decode cX10_corner 122 = .ok (.aload_n 0, 1) := by decide +kernel
theorem dX10_corner_123 : decode cX10_corner 123 = .ok (.aload_n 0, 1) := by decide +kernel
theorem dX10_corner_124 : decode cX10_corner 124 = .ok (.getfield 7, 3) := by decide +kernel
theorem dX10_corner_127 : decode cX10_corner 127 = .ok (.iconst 0, 1) := by decide +kernel
theorem dX10_corner_128 : decode cX10_corner 128 = .ok (.iaload, 1) := by decide +kernel
theorem dX10_corner_129 : decode cX10_corner 129 = .ok (.iconst 1, 1) := by decide +kernel
theorem dX10_corner_130 : decode cX10_corner 130 = .ok (.isub, 1) := by decide +kernel
theorem dX10_corner_131 : decode cX10_corner 131 = .ok (.invokevirtual 67, 3) := by decide +kernel
theorem dX10_corner_134 : decode cX10_corner 134 = .ok (.ireturn, 1) := by decide +kernel
theorem dX10_house_0 : decode cX10_house 0 = .ok (.aload_n 0, 1) := by decide +kernel
theorem dX10_house_1 : decode cX10_house 1 = .ok (.iload_n 1, 1) := by decide +kernel
theorem dX10_house_2 : decode cX10_house 2 = .ok (.invokevirtual 60, 3) := by decide +kernel
theorem dX10_house_5 : decode cX10_house 5 = .ok (.ifCond .eq 23, 3) := by decide +kernel
theorem dX10_house_8 : decode cX10_house 8 = .ok (.iload_n 2, 1) := by decide +kernel
theorem dX10_house_9 : decode cX10_house 9 = .ok (.iconst 1, 1) := by decide +kernel
theorem dX10_house_10 : decode cX10_house 10 = .ok (.iconst 5, 1) := by decide +kernel
theorem dX10_house_11 : decode cX10_house 11 = .ok (.invokestatic 45, 3) := by decide +kernel
theorem dX10_house_14 : decode cX10_house 14 = .ok (.ifCond .eq 14, 3) := by decide +kernel
theorem dX10_house_17 : decode cX10_house 17 = .ok (.iload_n 3, 1) := by decide +kernel
theorem dX10_house_18 : decode cX10_house 18 = .ok (.iconst 0, 1) := by decide +kernel
theorem dX10_house_19 : decode cX10_house 19 = .ok (.sipush 500, 3) := by decide +kernel
theorem dX10_house_22 : decode cX10_house 22 = .ok (.invokestatic 45, 3) := by decide +kernel
theorem dX10_house_25 : decode cX10_house 25 = .ok (.ifCond .ne 5, 3) := by decide +kernel
theorem dX10_house_28 : decode cX10_house 28 = .ok (.iconst (-1), 1) := by decide +kernel
theorem dX10_house_29 : decode cX10_house 29 = .ok (.ireturn, 1) := by decide +kernel
theorem dX10_house_30 : decode cX10_house 30 = .ok (.aload_n 0, 1) := by decide +kernel
theorem dX10_house_31 : decode cX10_house 31 = .ok (.getfield 7, 3) := by decide +kernel
theorem dX10_house_34 : decode cX10_house 34 = .ok (.iconst 1, 1) := by decide +kernel
theorem dX10_house_35 : decode cX10_house 35 = .ok (.iaload, 1) := by decide +kernel
theorem dX10_house_36 : decode cX10_house 36 = .ok (.bipush 24, 2) := by decide +kernel
theorem dX10_house_38 : decode cX10_house 38 = .ok (.if_icmp .ne 6, 3) := by decide +kernel
theorem dX10_house_41 : decode cX10_house 41 = .ok (.bipush (-3), 2) := by decide +kernel
theorem dX10_house_43 : decode cX10_house 43 = .ok (.ireturn, 1) := by decide +kernel
theorem dX10_house_44 : decode cX10_house 44 = .ok (.aload_n 0, 1) := by decide +kernel
theorem dX10_house_45 : decode cX10_house 45 = .ok (.invokevirtual 64, 3) := by decide +kernel
theorem dX10_house_48 : decode cX10_house 48 = .ok (.aload_n 0, 1) := by decide +kernel
theorem dX10_house_49 : decode cX10_house 49 = .ok (.getfield 7, 3) := by decide +kernel
theorem dX10_house_52 : decode cX10_house 52 = .ok (.iconst 1, 1) := by decide +kernel
theorem dX10_house_53 : decode cX10_house 53 = .ok (.iaload, 1) := by decide +kernel
theorem dX10_house_54 : decode cX10_house 54 = .ok (.istore 4, 2) := by decide +kernel
theorem dX10_house_56 : decode cX10_house 56 = .ok (.aload_n 0, 1) := by decide +kernel
theorem dX10_house_57 : decode cX10_house 57 = .ok (.iload 4, 2) := by decide +kernel
theorem dX10_house_59 : decode cX10_house 59 = .ok (.iconst 0, 1) := by decide +kernel
theorem dX10_house_60 : decode cX10_house 60 = .ok (.iload_n 1, 1) := by decide +kernel
theorem dX10_house_61 : decode cX10_house 61 = .ok (.invokevirtual 71, 3) := by decide +kernel
theorem dX10_house_64 : decode cX10_house 64 = .ok (.aload_n 0, 1) := by decide +kernel
theorem dX10_house_65 : decode cX10_house 65 = .ok (.iload 4, 2) := by decide +kernel
theorem dX10_house_67 : decode cX10_house 67 = .ok (.iconst 1, 1) := by decide +kernel
theorem dX10_house_68 : decode cX10_house 68 = .ok (.iload_n 2, 1) := by decide +kernel
theorem dX10_house_69 : decode cX10_house 69 = .ok (.invokevirtual 71, 3) := by decide +kernel
theorem dX10_house_72 : decode cX10_house 72 = .ok (.aload_n 0, 1) := by decide +kernel
theorem dX10_house_73 : decode cX10_house 73 = .ok (.iload 4, 2) := by decide +kernel
theorem dX10_house_75 : decode cX10_house 75 = .ok (.iconst 2, 1) := by decide +kernel
theorem dX10_house_76 : decode cX10_house 76 = .ok (.iload_n 3, 1) := by decide +kernel
theorem dX10_house_77 : decode cX10_house 77 = .ok (.invokevirtual 71, 3) := by decide +kernel
theorem dX10_house_80 : decode cX10_house 80 = .ok (.aload_n 0, 1) := by decide +kernel
theorem dX10_house_81 : decode cX10_house 81 = .ok (.iload 4, 2) := by decide +kernel
theorem dX10_house_83 : decode cX10_house 83 = .ok (.iconst 3, 1) := by decide +kernel
theorem dX10_house_84 : decode cX10_house 84 = .ok (.iconst (-1), 1) := by decide +kernel
theorem dX10_house_85 : decode cX10_house 85 = .ok (.invokevirtual 71, 3) := by decide +kernel
theorem dX10_house_88 : decode cX10_house 88 = .ok (.aload_n 0, 1) := by decide +kernel
theorem dX10_house_89 : decode cX10_house 89 = .ok (.getfield 7, 3) := by decide +kernel
theorem dX10_house_92 : decode cX10_house 92 = .ok (.iconst 1, 1) := by decide +kernel
theorem dX10_house_93 : decode cX10_house 93 = .ok (.dup2, 1) := by decide +kernel
theorem dX10_house_94 : decode cX10_house 94 = .ok (.iaload, 1) := by decide +kernel
theorem dX10_house_95 : decode cX10_house 95 = .ok (.iconst 1, 1) := by decide +kernel
theorem dX10_house_96 : decode cX10_house 96 = .ok (.iadd, 1) := by decide +kernel
theorem dX10_house_97 : decode cX10_house 97 = .ok (.iastore, 1) := by decide +kernel
theorem dX10_house_98 : decode cX10_house 98 = .ok (.aload_n 0, 1) := by decide +kernel
theorem dX10_house_99 : decode cX10_house 99 = .ok (.iload 4, 2) := by decide +kernel
theorem dX10_house_101 : decode cX10_house 101 = .ok (.invokevirtual 67, 3) := by decide +kernel
theorem dX10_house_104 : decode cX10_house 104 = .ok (.ireturn, 1) := by decide +kernel
theorem dX10_dog_0 : decode cX10_dog 0 = .ok (.aload_n 0, 1) := by decide +kernel
theorem dX10_dog_1 : decode cX10_dog 1 = .ok (.iload_n 1, 1) := by decide +kernel
theorem dX10_dog_2 : decode cX10_dog 2 = .ok (.invokevirtual 75, 3) := by decide +kernel
theorem dX10_dog_5 : decode cX10_dog 5 = .ok (.ifCond .eq 27, 3) := by decide +kernel
theorem dX10_dog_8 : decode cX10_dog 8 = .ok (.iload_n 2, 1) := by decide +kernel
theorem dX10_dog_9 : decode cX10_dog 9 = .ok (.ifCond .eq 13, 3) := by decide +kernel
theorem dX10_dog_12 : decode cX10_dog 12 = .ok (.iload_n 2, 1) := by decide +kernel
theorem dX10_dog_13 : decode cX10_dog 13 = .ok (.iconst 2, 1) := by decide +kernel
theorem dX10_dog_14 : decode cX10_dog 14 = .ok (.bipush 9, 2) := by decide +kernel
theorem dX10_dog_16 : decode cX10_dog 16 = .ok (.invokestatic 45, 3) := by decide +kernel
theorem dX10_dog_19 : decode cX10_dog 19 = .ok (.ifCond .eq 13, 3) := by decide +kernel
theorem dX10_dog_22 : decode cX10_dog 22 = .ok (.iload_n 3, 1) := by decide +kernel
theorem dX10_dog_23 : decode cX10_dog 23 = .ok (.iconst 0, 1) := by decide +kernel
theorem dX10_dog_24 : decode cX10_dog 24 = .ok (.bipush 8, 2) := by decide +kernel
theorem dX10_dog_26 : decode cX10_dog 26 = .ok (.invokestatic 45, 3) := by decide +kernel
theorem dX10_dog_29 : decode cX10_dog 29 = .ok (.ifCond .ne 5, 3) := by decide +kernel
theorem dX10_dog_32 : decode cX10_dog 32 = .ok (.iconst (-1), 1) := by decide +kernel
theorem dX10_dog_33 : decode cX10_dog 33 = .ok (.ireturn, 1) := by decide +kernel
theorem dX10_dog_34 : decode cX10_dog 34 = .ok (.aload_n 0, 1) := by decide +kernel
theorem dX10_dog_35 : decode cX10_dog 35 = .ok (.invokevirtual 64, 3) := by decide +kernel
theorem dX10_dog_38 : decode cX10_dog 38 = .ok (.aload_n 0, 1) := by decide +kernel
theorem dX10_dog_39 : decode cX10_dog 39 = .ok (.iload_n 1, 1) := by decide +kernel
theorem dX10_dog_40 : decode cX10_dog 40 = .ok (.iconst 4, 1) := by decide +kernel
theorem dX10_dog_41 : decode cX10_dog 41 = .ok (.invokevirtual 57, 3) := by decide +kernel
theorem dX10_dog_44 : decode cX10_dog 44 = .ok (.istore 4, 2) := by decide +kernel
theorem dX10_dog_46 : decode cX10_dog 46 = .ok (.aload_n 0, 1) := by decide +kernel
theorem dX10_dog_47 : decode cX10_dog 47 = .ok (.iload_n 1, 1) := by decide +kernel
theorem dX10_dog_48 : decode cX10_dog 48 = .ok (.iconst 4, 1) := by decide +kernel
theorem dX10_dog_49 : decode cX10_dog 49 = .ok (.iload_n 2, 1) := by decide +kernel
theorem dX10_dog_50 : decode cX10_dog 50 = .ok (.invokevirtual 71, 3) := by decide +kernel
theorem dX10_dog_53 : decode cX10_dog 53 = .ok (.aload_n 0, 1) := by decide +kernel
theorem dX10_dog_54 : decode cX10_dog 54 = .ok (.iload_n 1, 1) := by decide +kernel
theorem dX10_dog_55 : decode cX10_dog 55 = .ok (.iconst 5, 1) := by decide +kernel
theorem dX10_dog_56 : decode cX10_dog 56 = .ok (.iload_n 3, 1) := by decide +kernel
theorem dX10_dog_57 : decode cX10_dog 57 = .ok (.invokevirtual 71, 3) := by decide +kernel
theorem dX10_dog_60 : decode cX10_dog 60 = .ok (.aload_n 0, 1) := by decide +kernel
theorem dX10_dog_61 : decode cX10_dog 61 = .ok (.iload 4, 2) := by decide +kernel
theorem dX10_dog_63 : decode cX10_dog 63 = .ok (.invokevirtual 67, 3) := by decide +kernel
theorem dX10_dog_66 : decode cX10_dog 66 = .ok (.ireturn, 1) := by decide +kernel
theorem dX10_pauses_0 : decode cX10_pauses 0 = .ok (.aload_n 0, 1) := by decide +kernel
theorem dX10_pauses_1 : decode cX10_pauses 1 = .ok (.iload_n 1, 1) := by decide +kernel
theorem dX10_pauses_2 : decode cX10_pauses 2 = .ok (.invokevirtual 75, 3) := by decide +kernel
theorem dX10_pauses_5 : decode cX10_pauses 5 = .ok (.ifCond .eq 30, 3) := by decide +kernel
theorem dX10_pauses_8 : decode cX10_pauses 8 = .ok (.iload_n 2, 1) := by decide +kernel
theorem dX10_pauses_9 : decode cX10_pauses 9 = .ok (.aload_n 0, 1) := by decide +kernel
theorem dX10_pauses_10 : decode cX10_pauses 10 = .ok (.getfield 7, 3) := by decide +kernel
theorem dX10_pauses_13 : decode cX10_pauses 13 = .ok (.iconst 4, 1) := by decide +kernel
theorem dX10_pauses_14 : decode cX10_pauses 14 = .ok (.iaload, 1) := by decide +kernel
theorem dX10_pauses_15 : decode cX10_pauses 15 = .ok (.sipush 999, 3) := by decide +kernel
theorem dX10_pauses_18 : decode cX10_pauses 18 = .ok (.invokestatic 45, 3) := by decide +kernel
theorem dX10_pauses_21 : decode cX10_pauses 21 = .ok (.ifCond .eq 14, 3) := by decide +kernel
theorem dX10_pauses_24 : decode cX10_pauses 24 = .ok (.iload_n 3, 1) := by decide +kernel
theorem dX10_pauses_25 : decode cX10_pauses 25 = .ok (.iload_n 2, 1) := by decide +kernel
theorem dX10_pauses_26 : decode cX10_pauses 26 = .ok (.sipush 999, 3) := by decide +kernel
theorem dX10_pauses_29 : decode cX10_pauses 29 = .ok (.invokestatic 45, 3) := by decide +kernel
theorem dX10_pauses_32 : decode cX10_pauses 32 = .ok (.ifCond .ne 5, 3) := by decide +kernel
theorem dX10_pauses_35 : decode cX10_pauses 35 = .ok (.iconst (-1), 1) := by decide +kernel
theorem dX10_pauses_36 : decode cX10_pauses 36 = .ok (.ireturn, 1) := by decide +kernel
theorem dX10_pauses_37 : decode cX10_pauses 37 = .ok (.aload_n 0, 1) := by decide +kernel
theorem dX10_pauses_38 : decode cX10_pauses 38 = .ok (.getfield 7, 3) := by decide +kernel
theorem dX10_pauses_41 : decode cX10_pauses 41 = .ok (.iconst 3, 1) := by decide +kernel
theorem dX10_pauses_42 : decode cX10_pauses 42 = .ok (.iaload, 1) := by decide +kernel
theorem dX10_pauses_43 : decode cX10_pauses 43 = .ok (.bipush 30, 2) := by decide +kernel
theorem dX10_pauses_45 : decode cX10_pauses 45 = .ok (.if_icmp .ne 6, 3) := by decide +kernel
theorem dX10_pauses_48 : decode cX10_pauses 48 = .ok (.bipush (-3), 2) := by decide +kernel
theorem dX10_pauses_50 : decode cX10_pauses 50 = .ok (.ireturn, 1) := by decide +kernel
theorem dX10_pauses_51 : decode cX10_pauses 51 = .ok (.sipush 447, 3) := by decide +kernel
theorem dX10_pauses_54 : decode cX10_pauses 54 = .ok (.iconst 3, 1) := by decide +kernel
theorem dX10_pauses_55 : decode cX10_pauses 55 = .ok (.aload_n 0, 1) := by decide +kernel
theorem dX10_pauses_56 : decode cX10_pauses 56 = .ok (.getfield 7, 3) := by decide +kernel
theorem dX10_pauses_59 : decode cX10_pauses 59 = .ok (.iconst 3, 1) := by decide +kernel
theorem dX10_pauses_60 : decode cX10_pauses 60 = .ok (.iaload, 1) := by decide +kernel
theorem dX10_pauses_61 : decode cX10_pauses 61 = .ok (.imul, 1) := by decide +kernel
theorem dX10_pauses_62 : decode cX10_pauses 62 = .ok (.iadd, 1) := by decide +kernel
theorem dX10_pauses_63 : decode cX10_pauses 63 = .ok (.istore 4, 2) := by decide +kernel
theorem dX10_pauses_65 : decode cX10_pauses 65 = .ok (.aload_n 0, 1) := by decide +kernel
theorem dX10_pauses_66 : decode cX10_pauses 66 = .ok (.getfield 7, 3) := by decide +kernel
theorem dX10_pauses_69 : decode cX10_pauses 69 = .ok (.iload 4, 2) := by decide +kernel
theorem dX10_pauses_71 : decode cX10_pauses 71 = .ok (.iload_n 1, 1) := by decide +kernel
theorem dX10_pauses_72 : decode cX10_pauses 72 = .ok (.iastore, 1) := by decide +kernel
theorem dX10_pauses_73 : decode cX10_pauses 73 = .ok (.aload_n 0, 1) := by decide +kernel
theorem dX10_pauses_74 : decode cX10_pauses 74 = .ok (.getfield 7, 3) := by decide +kernel
theorem dX10_pauses_77 : decode cX10_pauses 77 = .ok (.iload 4, 2) := by decide +kernel
theorem dX10_pauses_79 : decode cX10_pauses 79 = .ok (.iconst 1, 1) := by decide +kernel
theorem dX10_pauses_80 : decode cX10_pauses 80 = .ok (.iadd, 1) := by decide +kernel
theorem dX10_pauses_81 : decode cX10_pauses 81 = .ok (.iload_n 2, 1) := by decide +kernel
theorem dX10_pauses_82 : decode cX10_pauses 82 = .ok (.iastore, 1) := by decide +kernel
theorem dX10_pauses_83 : decode cX10_pauses 83 = .ok (.aload_n 0, 1) := by decide +kernel
theorem dX10_pauses_84 : decode cX10_pauses 84 = .ok (.getfield 7, 3) := by decide +kernel
theorem dX10_pauses_87 : decode cX10_pauses 87 = .ok (.iload 4, 2) := by decide +kernel
theorem dX10_pauses_89 : decode cX10_pauses 89 = .ok (.iconst 2, 1) := by decide +kernel
theorem dX10_pauses_90 : decode cX10_pauses 90 = .ok (.iadd, 1) := by decide +kernel
theorem dX10_pauses_91 : decode cX10_pauses 91 = .ok (.iload_n 3, 1) := by decide +kernel
theorem dX10_pauses_92 : decode cX10_pauses 92 = .ok (.iastore, 1) := by decide +kernel
theorem dX10_pauses_93 : decode cX10_pauses 93 = .ok (.aload_n 0, 1) := by decide +kernel
theorem dX10_pauses_94 : decode cX10_pauses 94 = .ok (.getfield 7, 3) := by decide +kernel
theorem dX10_pauses_97 : decode cX10_pauses 97 = .ok (.iconst 3, 1) := by decide +kernel
theorem dX10_pauses_98 : decode cX10_pauses 98 = .ok (.dup2, 1) := by decide +kernel
theorem dX10_pauses_99 : decode cX10_pauses 99 = .ok (.iaload, 1) := by decide +kernel
theorem dX10_pauses_100 : decode cX10_pauses 100 = .ok (.iconst 1, 1) := by decide +kernel
theorem dX10_pauses_101 : decode cX10_pauses 101 = .ok (.iadd, 1) := by decide +kernel
theorem dX10_pauses_102 : decode cX10_pauses 102 = .ok (.iastore, 1) := by decide +kernel
theorem dX10_pauses_103 : decode cX10_pauses 103 = .ok (.aload_n 0, 1) := by decide +kernel
theorem dX10_pauses_104 : decode cX10_pauses 104 = .ok (.getfield 7, 3) := by decide +kernel
theorem dX10_pauses_107 : decode cX10_pauses 107 = .ok (.iconst 3, 1) := by decide +kernel
theorem dX10_pauses_108 : decode cX10_pauses 108 = .ok (.iaload, 1) := by decide +kernel
theorem dX10_pauses_109 : decode cX10_pauses 109 = .ok (.iconst 1, 1) := by decide +kernel
theorem dX10_pauses_110 : decode cX10_pauses 110 = .ok (.isub, 1) := by decide +kernel
theorem dX10_pauses_111 : decode cX10_pauses 111 = .ok (.ireturn, 1) := by decide +kernel
theorem dX10_pause_0 : decode cX10_pause 0 = .ok (.aload_n 0, 1) := by decide +kernel
theorem dX10_pause_1 : decode cX10_pause 1 = .ok (.invokevirtual 64, 3) := by decide +kernel
theorem dX10_pause_4 : decode cX10_pause 4 = .ok (.aload_n 0, 1) := by decide +kernel
theorem dX10_pause_5 : decode cX10_pause 5 = .ok (.aload_n 0, 1) := by decide +kernel
theorem dX10_pause_6 : decode cX10_pause 6 = .ok (.iload_n 1, 1) := by decide +kernel
theorem dX10_pause_7 : decode cX10_pause 7 = .ok (.iload_n 2, 1) := by decide +kernel
theorem dX10_pause_8 : decode cX10_pause 8 = .ok (.iload_n 3, 1) := by decide +kernel
theorem dX10_pause_9 : decode cX10_pause 9 = .ok (.invokevirtual 78, 3) := by decide +kernel
theorem dX10_pause_12 : decode cX10_pause 12 = .ok (.invokevirtual 67, 3) := by decide +kernel
theorem dX10_pause_15 : decode cX10_pause 15 = .ok (.ireturn, 1) := by decide +kernel
theorem dX10_carrier_0 : decode cX10_carrier 0 = .ok (.iload_n 1, 1) := by decide +kernel
theorem dX10_carrier_1 : decode cX10_carrier 1 = .ok (.iconst 0, 1) := by decide +kernel
theorem dX10_carrier_2 : decode cX10_carrier 2 = .ok (.iconst 1, 1) := by decide +kernel
theorem dX10_carrier_3 : decode cX10_carrier 3 = .ok (.invokestatic 45, 3) := by decide +kernel
theorem dX10_carrier_6 : decode cX10_carrier 6 = .ok (.ifCond .eq 15, 3) := by decide +kernel
theorem dX10_carrier_9 : decode cX10_carrier 9 = .ok (.iload_n 2, 1) := by decide +kernel
theorem dX10_carrier_10 : decode cX10_carrier 10 = .ok (.bipush 10, 2) := by decide +kernel
theorem dX10_carrier_12 : decode cX10_carrier 12 = .ok (.sipush 500, 3) := by decide +kernel
theorem dX10_carrier_15 : decode cX10_carrier 15 = .ok (.invokestatic 45, 3) := by decide +kernel
theorem dX10_carrier_18 : decode cX10_carrier 18 = .ok (.ifCond .ne 5, 3) := by decide +kernel
theorem dX10_carrier_21 : decode cX10_carrier 21 = .ok (.iconst (-1), 1) := by decide +kernel
theorem dX10_carrier_22 : decode cX10_carrier 22 = .ok (.ireturn, 1) := by decide +kernel
theorem dX10_carrier_23 : decode cX10_carrier 23 = .ok (.aload_n 0, 1) := by decide +kernel
theorem dX10_carrier_24 : decode cX10_carrier 24 = .ok (.getfield 7, 3) := by decide +kernel
theorem dX10_carrier_27 : decode cX10_carrier 27 = .ok (.iconst 2, 1) := by decide +kernel
theorem dX10_carrier_28 : decode cX10_carrier 28 = .ok (.iaload, 1) := by decide +kernel
theorem dX10_carrier_29 : decode cX10_carrier 29 = .ok (.iconst 3, 1) := by decide +kernel
theorem dX10_carrier_30 : decode cX10_carrier 30 = .ok (.if_icmp .ne 6, 3) := by decide +kernel
theorem dX10_carrier_33 : decode cX10_carrier 33 = .ok (.bipush (-3), 2) := by decide +kernel
theorem dX10_carrier_35 : decode cX10_carrier 35 = .ok (.ireturn, 1) := by decide +kernel
theorem dX10_carrier_36 : decode cX10_carrier 36 = .ok (.aload_n 0, 1) := by decide +kernel
theorem dX10_carrier_37 : decode cX10_carrier 37 = .ok (.invokevirtual 64, 3) := by decide +kernel
theorem dX10_carrier_40 : decode cX10_carrier 40 = .ok (.aload_n 0, 1) := by decide +kernel
theorem dX10_carrier_41 : decode cX10_carrier 41 = .ok (.aload_n 0, 1) := by decide +kernel
theorem dX10_carrier_42 : decode cX10_carrier 42 = .ok (.getfield 7, 3) := by decide +kernel
theorem dX10_carrier_45 : decode cX10_carrier 45 = .ok (.iconst 2, 1) := by decide +kernel
theorem dX10_carrier_46 : decode cX10_carrier 46 = .ok (.iaload, 1) := by decide +kernel
theorem dX10_carrier_47 : decode cX10_carrier 47 = .ok (.iconst 0, 1) := by decide +kernel
theorem dX10_carrier_48 : decode cX10_carrier 48 = .ok (.iload_n 1, 1) := by decide +kernel
theorem dX10_carrier_49 : decode cX10_carrier 49 = .ok (.invokevirtual 82, 3) := by decide +kernel
theorem dX10_carrier_52 : decode cX10_carrier 52 = .ok (.aload_n 0, 1) := by decide +kernel
theorem dX10_carrier_53 : decode cX10_carrier 53 = .ok (.aload_n 0, 1) := by decide +kernel
theorem dX10_carrier_54 : decode cX10_carrier 54 = .ok (.getfield 7, 3) := by decide +kernel
theorem dX10_carrier_57 : decode cX10_carrier 57 = .ok (.iconst 2, 1) := by decide +kernel
theorem dX10_carrier_58 : decode cX10_carrier 58 = .ok (.iaload, 1) := by decide +kernel
theorem dX10_carrier_59 : decode cX10_carrier 59 = .ok (.iconst 1, 1) := by decide +kernel
theorem dX10_carrier_60 : decode cX10_carrier 60 = .ok (.iload_n 2, 1) := by decide +kernel
theorem dX10_carrier_61 : decode cX10_carrier 61 = .ok (.invokevirtual 82, 3) := by decide +kernel
theorem dX10_carrier_64 : decode cX10_carrier 64 = .ok (.aload_n 0, 1) := by decide +kernel
theorem dX10_carrier_65 : decode cX10_carrier 65 = .ok (.getfield 7, 3) := by decide +kernel
theorem dX10_carrier_68 : decode cX10_carrier 68 = .ok (.iconst 2, 1) := by decide +kernel
theorem dX10_carrier_69 : decode cX10_carrier 69 = .ok (.dup2, 1) := by decide +kernel
theorem dX10_carrier_70 : decode cX10_carrier 70 = .ok (.iaload, 1) := by decide +kernel
theorem dX10_carrier_71 : decode cX10_carrier 71 = .ok (.iconst 1, 1) := by decide +kernel
theorem dX10_carrier_72 : decode cX10_carrier 72 = .ok (.iadd, 1) := by decide +kernel
theorem dX10_carrier_73 : decode cX10_carrier 73 = .ok (.iastore, 1) := by decide +kernel
theorem dX10_carrier_74 : decode cX10_carrier 74 = .ok (.aload_n 0, 1) := by decide +kernel
theorem dX10_carrier_75 : decode cX10_carrier 75 = .ok (.aload_n 0, 1) := by decide +kernel
theorem dX10_carrier_76 : decode cX10_carrier 76 = .ok (.getfield 7, 3) := by decide +kernel
theorem dX10_carrier_79 : decode cX10_carrier 79 = .ok (.iconst 2, 1) := by decide +kernel
theorem dX10_carrier_80 : decode cX10_carrier 80 = .ok (.iaload, 1) := by decide +kernel
theorem dX10_carrier_81 : decode cX10_carrier 81 = .ok (.iconst 1, 1) := by decide +kernel
theorem dX10_carrier_82 : decode cX10_carrier 82 = .ok (.isub, 1) := by decide +kernel
theorem dX10_carrier_83 : decode cX10_carrier 83 = .ok (.invokevirtual 67, 3) := by decide +kernel
theorem dX10_carrier_86 : decode cX10_carrier 86 = .ok (.ireturn, 1) := by decide +kernel
theorem dX10_housesOf_0 : decode cX10_housesOf 0 = .ok (.iconst 0, 1) := by decide +kernel
theorem dX10_housesOf_1 : decode cX10_housesOf 1 = .ok (.istore_n 2, 1) := by decide +kernel
theorem dX10_housesOf_2 : decode cX10_housesOf 2 = .ok (.iconst 0, 1) := by decide +kernel
theorem dX10_housesOf_3 : decode cX10_housesOf 3 = .ok (.istore_n 3, 1) := by decide +kernel
theorem dX10_housesOf_4 : decode cX10_housesOf 4 = .ok (.iload_n 3, 1) := by decide +kernel
theorem dX10_housesOf_5 : decode cX10_housesOf 5 = .ok (.aload_n 0, 1) := by decide +kernel
theorem dX10_housesOf_6 : decode cX10_housesOf 6 = .ok (.getfield 7, 3) := by decide +kernel
theorem dX10_housesOf_9 : decode cX10_housesOf 9 = .ok (.iconst 1, 1) := by decide +kernel
theorem dX10_housesOf_10 : decode cX10_housesOf 10 = .ok (.iaload, 1) := by decide +kernel
theorem dX10_housesOf_11 : decode cX10_housesOf 11 = .ok (.if_icmp .ge 27, 3) := by decide +kernel
theorem dX10_housesOf_14 : decode cX10_housesOf 14 = .ok (.iload_n 2, 1) := by decide +kernel
theorem dX10_housesOf_15 : decode cX10_housesOf 15 = .ok (.aload_n 0, 1) := by decide +kernel
theorem dX10_housesOf_16 : decode cX10_housesOf 16 = .ok (.iload_n 3, 1) := by decide +kernel
theorem dX10_housesOf_17 : decode cX10_housesOf 17 = .ok (.iconst 3, 1) := by decide +kernel
theorem dX10_housesOf_18 : decode cX10_housesOf 18 = .ok (.invokevirtual 57, 3) := by decide +kernel
theorem dX10_housesOf_21 : decode cX10_housesOf 21 = .ok (.iload_n 1, 1) := by decide +kernel
theorem dX10_housesOf_22 : decode cX10_housesOf 22 = .ok (.if_icmp .ne 7, 3) := by decide +kernel
theorem dX10_housesOf_25 : decode cX10_housesOf 25 = .ok (.iconst 1, 1) := by decide +kernel
theorem dX10_housesOf_26 : decode cX10_housesOf 26 = .ok (.goto 4, 3) := by decide +kernel
theorem dX10_housesOf_29 : decode cX10_housesOf 29 = .ok (.iconst 0, 1) := by decide +kernel
theorem dX10_housesOf_30 : decode cX10_housesOf 30 = .ok (.iadd, 1) := by decide +kernel
theorem dX10_housesOf_31 : decode cX10_housesOf 31 = .ok (.istore_n 2, 1) := by decide +kernel
theorem dX10_housesOf_32 : decode cX10_housesOf 32 = .ok (.iinc 3 1, 3) := by decide +kernel
theorem dX10_housesOf_35 : decode cX10_housesOf 35 = .ok (.goto (-31), 3) := by decide +kernel
theorem dX10_housesOf_38 : decode cX10_housesOf 38 = .ok (.iload_n 2, 1) := by decide +kernel
theorem dX10_housesOf_39 : decode cX10_housesOf 39 = .ok (.ireturn, 1) := by decide +kernel
theorem dX10_canReach_0 : decode cX10_canReach 0 = .ok (.aload_n 0, 1) := by decide +kernel
theorem dX10_canReach_1 : decode cX10_canReach 1 = .ok (.iload_n 1, 1) := by decide +kernel
theorem dX10_canReach_2 : decode cX10_canReach 2 = .ok (.iconst 0, 1) := by decide +kernel
theorem dX10_canReach_3 : decode cX10_canReach 3 = .ok (.invokevirtual 85, 3) := by decide +kernel
theorem dX10_canReach_6 : decode cX10_canReach 6 = .ok (.ifCond .eq 16, 3) := by decide +kernel
theorem dX10_canReach_9 : decode cX10_canReach 9 = .ok (.aload_n 0, 1) := by decide +kernel
theorem dX10_canReach_10 : decode cX10_canReach 10 = .ok (.aload_n 0, 1) := by decide +kernel
theorem dX10_canReach_11 : decode cX10_canReach 11 = .ok (.iload_n 2, 1) := by decide +kernel
theorem dX10_canReach_12 : decode cX10_canReach 12 = .ok (.iconst 0, 1) := by decide +kernel
theorem dX10_canReach_13 : decode cX10_canReach 13 = .ok (.invokevirtual 57, 3) := by decide +kernel
theorem dX10_canReach_16 : decode cX10_canReach 16 = .ok (.invokevirtual 88, 3) := by decide +kernel
theorem dX10_canReach_19 : decode cX10_canReach 19 = .ok (.ifCond .eq 7, 3) := by decide +kernel
theorem dX10_canReach_22 : decode cX10_canReach 22 = .ok (.iconst 1, 1) := by decide +kernel
theorem dX10_canReach_23 : decode cX10_canReach 23 = .ok (.goto 4, 3) := by decide +kernel
theorem dX10_canReach_26 : decode cX10_canReach 26 = .ok (.iconst 0, 1) := by decide +kernel
theorem dX10_canReach_27 : decode cX10_canReach 27 = .ok (.ireturn, 1) := by decide +kernel
theorem dX10_gives_0 : decode cX10_gives 0 = .ok (.aload_n 0, 1) := by decide +kernel
theorem dX10_gives_1 : decode cX10_gives 1 = .ok (.iload_n 1, 1) := by decide +kernel
theorem dX10_gives_2 : decode cX10_gives 2 = .ok (.invokevirtual 75, 3) := by decide +kernel
theorem dX10_gives_5 : decode cX10_gives 5 = .ok (.ifCond .eq 11, 3) := by decide +kernel
theorem dX10_gives_8 : decode cX10_gives 8 = .ok (.aload_n 0, 1) := by decide +kernel
theorem dX10_gives_9 : decode cX10_gives 9 = .ok (.iload_n 2, 1) := by decide +kernel
theorem dX10_gives_10 : decode cX10_gives 10 = .ok (.invokevirtual 91, 3) := by decide +kernel
theorem dX10_gives_13 : decode cX10_gives 13 = .ok (.ifCond .ne 5, 3) := by decide +kernel
theorem dX10_gives_16 : decode cX10_gives 16 = .ok (.iconst (-1), 1) := by decide +kernel
theorem dX10_gives_17 : decode cX10_gives 17 = .ok (.ireturn, 1) := by decide +kernel
theorem dX10_gives_18 : decode cX10_gives 18 = .ok (.aload_n 0, 1) := by decide +kernel
theorem dX10_gives_19 : decode cX10_gives 19 = .ok (.iload_n 1, 1) := by decide +kernel
theorem dX10_gives_20 : decode cX10_gives 20 = .ok (.iconst 3, 1) := by decide +kernel
theorem dX10_gives_21 : decode cX10_gives 21 = .ok (.invokevirtual 57, 3) := by decide +kernel
theorem dX10_gives_24 : decode cX10_gives 24 = .ok (.iload_n 2, 1) := by decide +kernel
theorem dX10_gives_25 : decode cX10_gives 25 = .ok (.if_icmp .eq 12, 3) := by decide +kernel
theorem dX10_gives_28 : decode cX10_gives 28 = .ok (.aload_n 0, 1) := by decide +kernel
theorem dX10_gives_29 : decode cX10_gives 29 = .ok (.iload_n 2, 1) := by decide +kernel
theorem dX10_gives_30 : decode cX10_gives 30 = .ok (.iload_n 1, 1) := by decide +kernel
theorem dX10_gives_31 : decode cX10_gives 31 = .ok (.invokevirtual 94, 3) := by decide +kernel
theorem dX10_gives_34 : decode cX10_gives 34 = .ok (.ifCond .ne 6, 3) := by decide +kernel
theorem dX10_gives_37 : decode cX10_gives 37 = .ok (.bipush (-2), 2) := by decide +kernel
theorem dX10_gives_39 : decode cX10_gives 39 = .ok (.ireturn, 1) := by decide +kernel
theorem dX10_gives_40 : decode cX10_gives 40 = .ok (.aload_n 0, 1) := by decide +kernel
theorem dX10_gives_41 : decode cX10_gives 41 = .ok (.iload_n 1, 1) := by decide +kernel
theorem dX10_gives_42 : decode cX10_gives 42 = .ok (.iconst 3, 1) := by decide +kernel
theorem dX10_gives_43 : decode cX10_gives 43 = .ok (.iload_n 2, 1) := by decide +kernel
theorem dX10_gives_44 : decode cX10_gives 44 = .ok (.invokevirtual 71, 3) := by decide +kernel
theorem dX10_gives_47 : decode cX10_gives 47 = .ok (.aload_n 0, 1) := by decide +kernel
theorem dX10_gives_48 : decode cX10_gives 48 = .ok (.iload_n 2, 1) := by decide +kernel
theorem dX10_gives_49 : decode cX10_gives 49 = .ok (.invokevirtual 97, 3) := by decide +kernel
theorem dX10_gives_52 : decode cX10_gives 52 = .ok (.ireturn, 1) := by decide +kernel
theorem dX10_give_0 : decode cX10_give 0 = .ok (.aload_n 0, 1) := by decide +kernel
theorem dX10_give_1 : decode cX10_give 1 = .ok (.invokevirtual 64, 3) := by decide +kernel
theorem dX10_give_4 : decode cX10_give 4 = .ok (.aload_n 0, 1) := by decide +kernel
theorem dX10_give_5 : decode cX10_give 5 = .ok (.aload_n 0, 1) := by decide +kernel
theorem dX10_give_6 : decode cX10_give 6 = .ok (.iload_n 1, 1) := by decide +kernel
theorem dX10_give_7 : decode cX10_give 7 = .ok (.iload_n 2, 1) := by decide +kernel
theorem dX10_give_8 : decode cX10_give 8 = .ok (.invokevirtual 100, 3) := by decide +kernel
theorem dX10_give_11 : decode cX10_give 11 = .ok (.invokevirtual 67, 3) := by decide +kernel
theorem dX10_give_14 : decode cX10_give 14 = .ok (.ireturn, 1) := by decide +kernel
theorem dX10_givesNone_0 : decode cX10_givesNone 0 = .ok (.aload_n 0, 1) := by decide +kernel
theorem dX10_givesNone_1 : decode cX10_givesNone 1 = .ok (.iload_n 1, 1) := by decide +kernel
theorem dX10_givesNone_2 : decode cX10_givesNone 2 = .ok (.invokevirtual 75, 3) := by decide +kernel
theorem dX10_givesNone_5 : decode cX10_givesNone 5 = .ok (.ifCond .ne 5, 3) := by decide +kernel
theorem dX10_givesNone_8 : decode cX10_givesNone 8 = .ok (.iconst (-1), 1) := by decide +kernel
theorem dX10_givesNone_9 : decode cX10_givesNone 9 = .ok (.ireturn, 1) := by decide +kernel
theorem dX10_givesNone_10 : decode cX10_givesNone 10 = .ok (.aload_n 0, 1) := by decide +kernel
theorem dX10_givesNone_11 : decode cX10_givesNone 11 = .ok (.iload_n 1, 1) := by decide +kernel
theorem dX10_givesNone_12 : decode cX10_givesNone 12 = .ok (.iconst 3, 1) := by decide +kernel
theorem dX10_givesNone_13 : decode cX10_givesNone 13 = .ok (.invokevirtual 57, 3) := by decide +kernel
theorem dX10_givesNone_16 : decode cX10_givesNone 16 = .ok (.istore_n 2, 1) := by decide +kernel
theorem dX10_givesNone_17 : decode cX10_givesNone 17 = .ok (.iload_n 2, 1) := by decide +kernel
theorem dX10_givesNone_18 : decode cX10_givesNone 18 = .ok (.iconst (-1), 1) := by decide +kernel
theorem dX10_givesNone_19 : decode cX10_givesNone 19 = .ok (.if_icmp .ne 6, 3) := by decide +kernel
theorem dX10_givesNone_22 : decode cX10_givesNone 22 = .ok (.bipush (-2), 2) := by decide +kernel
theorem dX10_givesNone_24 : decode cX10_givesNone 24 = .ok (.ireturn, 1) := by decide +kernel
theorem dX10_givesNone_25 : decode cX10_givesNone 25 = .ok (.aload_n 0, 1) := by decide +kernel
theorem dX10_givesNone_26 : decode cX10_givesNone 26 = .ok (.iload_n 1, 1) := by decide +kernel
theorem dX10_givesNone_27 : decode cX10_givesNone 27 = .ok (.iconst 3, 1) := by decide +kernel
theorem dX10_givesNone_28 : decode cX10_givesNone 28 = .ok (.iconst (-1), 1) := by decide +kernel
theorem dX10_givesNone_29 : decode cX10_givesNone 29 = .ok (.invokevirtual 71, 3) := by decide +kernel
theorem dX10_givesNone_32 : decode cX10_givesNone 32 = .ok (.iload_n 2, 1) := by decide +kernel
theorem dX10_givesNone_33 : decode cX10_givesNone 33 = .ok (.ireturn, 1) := by decide +kernel
theorem dX10_giveNone_0 : decode cX10_giveNone 0 = .ok (.aload_n 0, 1) := by decide +kernel
theorem dX10_giveNone_1 : decode cX10_giveNone 1 = .ok (.invokevirtual 64, 3) := by decide +kernel
theorem dX10_giveNone_4 : decode cX10_giveNone 4 = .ok (.aload_n 0, 1) := by decide +kernel
theorem dX10_giveNone_5 : decode cX10_giveNone 5 = .ok (.aload_n 0, 1) := by decide +kernel
theorem dX10_giveNone_6 : decode cX10_giveNone 6 = .ok (.iload_n 1, 1) := by decide +kernel
theorem dX10_giveNone_7 : decode cX10_giveNone 7 = .ok (.invokevirtual 103, 3) := by decide +kernel
theorem dX10_giveNone_10 : decode cX10_giveNone 10 = .ok (.invokevirtual 67, 3) := by decide +kernel
theorem dX10_giveNone_13 : decode cX10_giveNone 13 = .ok (.ireturn, 1) := by decide +kernel
theorem dX10_addsBiscuits_0 : decode cX10_addsBiscuits 0 = .ok (.aload_n 0, 1) := by decide +kernel
theorem dX10_addsBiscuits_1 : decode cX10_addsBiscuits 1 = .ok (.iload_n 1, 1) := by decide +kernel
theorem dX10_addsBiscuits_2 : decode cX10_addsBiscuits 2 = .ok (.invokevirtual 91, 3) := by decide +kernel
theorem dX10_addsBiscuits_5 : decode cX10_addsBiscuits 5 = .ok (.ifCond .eq 13, 3) := by decide +kernel
theorem dX10_addsBiscuits_8 : decode cX10_addsBiscuits 8 = .ok (.iload_n 2, 1) := by decide +kernel
theorem dX10_addsBiscuits_9 : decode cX10_addsBiscuits 9 = .ok (.iconst 1, 1) := by decide +kernel
theorem dX10_addsBiscuits_10 : decode cX10_addsBiscuits 10 = .ok (.bipush 99, 2) := by decide +kernel
theorem dX10_addsBiscuits_12 : decode cX10_addsBiscuits 12 = .ok (.invokestatic 45, 3) := by decide +kernel
theorem dX10_addsBiscuits_15 : decode cX10_addsBiscuits 15 = .ok (.ifCond .ne 5, 3) := by decide +kernel
theorem dX10_addsBiscuits_18 : decode cX10_addsBiscuits 18 = .ok (.iconst (-1), 1) := by decide +kernel
theorem dX10_addsBiscuits_19 : decode cX10_addsBiscuits 19 = .ok (.ireturn, 1) := by decide +kernel
theorem dX10_addsBiscuits_20 : decode cX10_addsBiscuits 20 = .ok (.aload_n 0, 1) := by decide +kernel
theorem dX10_addsBiscuits_21 : decode cX10_addsBiscuits 21 = .ok (.iload_n 1, 1) := by decide +kernel
theorem dX10_addsBiscuits_22 : decode cX10_addsBiscuits 22 = .ok (.iconst 2, 1) := by decide +kernel
theorem dX10_addsBiscuits_23 : decode cX10_addsBiscuits 23 = .ok (.invokevirtual 85, 3) := by decide +kernel
theorem dX10_addsBiscuits_26 : decode cX10_addsBiscuits 26 = .ok (.iload_n 2, 1) := by decide +kernel
theorem dX10_addsBiscuits_27 : decode cX10_addsBiscuits 27 = .ok (.iadd, 1) := by decide +kernel
theorem dX10_addsBiscuits_28 : decode cX10_addsBiscuits 28 = .ok (.sipush 500, 3) := by decide +kernel
theorem dX10_addsBiscuits_31 : decode cX10_addsBiscuits 31 = .ok (.if_icmp .le 6, 3) := by decide +kernel
theorem dX10_addsBiscuits_34 : decode cX10_addsBiscuits 34 = .ok (.bipush (-3), 2) := by decide +kernel
theorem dX10_addsBiscuits_36 : decode cX10_addsBiscuits 36 = .ok (.ireturn, 1) := by decide +kernel
theorem dX10_addsBiscuits_37 : decode cX10_addsBiscuits 37 = .ok (.aload_n 0, 1) := by decide +kernel
theorem dX10_addsBiscuits_38 : decode cX10_addsBiscuits 38 = .ok (.iload_n 1, 1) := by decide +kernel
theorem dX10_addsBiscuits_39 : decode cX10_addsBiscuits 39 = .ok (.iconst 2, 1) := by decide +kernel
theorem dX10_addsBiscuits_40 : decode cX10_addsBiscuits 40 = .ok (.iload_n 2, 1) := by decide +kernel
theorem dX10_addsBiscuits_41 : decode cX10_addsBiscuits 41 = .ok (.invokevirtual 82, 3) := by decide +kernel
theorem dX10_addsBiscuits_44 : decode cX10_addsBiscuits 44 = .ok (.aload_n 0, 1) := by decide +kernel
theorem dX10_addsBiscuits_45 : decode cX10_addsBiscuits 45 = .ok (.iload_n 1, 1) := by decide +kernel
theorem dX10_addsBiscuits_46 : decode cX10_addsBiscuits 46 = .ok (.iconst 2, 1) := by decide +kernel
theorem dX10_addsBiscuits_47 : decode cX10_addsBiscuits 47 = .ok (.invokevirtual 85, 3) := by decide +kernel
theorem dX10_addsBiscuits_50 : decode cX10_addsBiscuits 50 = .ok (.ireturn, 1) := by decide +kernel
theorem dX10_biscuits_0 : decode cX10_biscuits 0 = .ok (.aload_n 0, 1) := by decide +kernel
theorem dX10_biscuits_1 : decode cX10_biscuits 1 = .ok (.invokevirtual 64, 3) := by decide +kernel
theorem dX10_biscuits_4 : decode cX10_biscuits 4 = .ok (.aload_n 0, 1) := by decide +kernel
theorem dX10_biscuits_5 : decode cX10_biscuits 5 = .ok (.aload_n 0, 1) := by decide +kernel
theorem dX10_biscuits_6 : decode cX10_biscuits 6 = .ok (.iload_n 1, 1) := by decide +kernel
theorem dX10_biscuits_7 : decode cX10_biscuits 7 = .ok (.iload_n 2, 1) := by decide +kernel
theorem dX10_biscuits_8 : decode cX10_biscuits 8 = .ok (.invokevirtual 106, 3) := by decide +kernel
theorem dX10_biscuits_11 : decode cX10_biscuits 11 = .ok (.invokevirtual 67, 3) := by decide +kernel
theorem dX10_biscuits_14 : decode cX10_biscuits 14 = .ok (.ireturn, 1) := by decide +kernel
theorem dX10_set_0 : decode cX10_set 0 = .ok (.iload_n 1, 1) := by decide +kernel
theorem dX10_set_1 : decode cX10_set 1 = .ok (.iconst 0, 1) := by decide +kernel
theorem dX10_set_2 : decode cX10_set 2 = .ok (.iconst 1, 1) := by decide +kernel
theorem dX10_set_3 : decode cX10_set 3 = .ok (.invokestatic 45, 3) := by decide +kernel
theorem dX10_set_6 : decode cX10_set 6 = .ok (.ifCond .eq 22, 3) := by decide +kernel
theorem dX10_set_9 : decode cX10_set 9 = .ok (.iload_n 2, 1) := by decide +kernel
theorem dX10_set_10 : decode cX10_set 10 = .ok (.iconst 1, 1) := by decide +kernel
theorem dX10_set_11 : decode cX10_set 11 = .ok (.iload_n 1, 1) := by decide +kernel
theorem dX10_set_12 : decode cX10_set 12 = .ok (.ifCond .ne 8, 3) := by decide +kernel
theorem dX10_set_15 : decode cX10_set 15 = .ok (.bipush 20, 2) := by decide +kernel
theorem dX10_set_17 : decode cX10_set 17 = .ok (.goto 5, 3) := by decide +kernel
theorem dX10_set_20 : decode cX10_set 20 = .ok (.bipush 50, 2) := by decide +kernel
theorem dX10_set_22 : decode cX10_set 22 = .ok (.invokestatic 45, 3) := by decide +kernel
theorem dX10_set_25 : decode cX10_set 25 = .ok (.ifCond .ne 5, 3) := by decide +kernel
theorem dX10_set_28 : decode cX10_set 28 = .ok (.iconst (-1), 1) := by decide +kernel
theorem dX10_set_29 : decode cX10_set 29 = .ok (.ireturn, 1) := by decide +kernel
theorem dX10_set_30 : decode cX10_set 30 = .ok (.aload_n 0, 1) := by decide +kernel
theorem dX10_set_31 : decode cX10_set 31 = .ok (.invokevirtual 64, 3) := by decide +kernel
theorem dX10_set_34 : decode cX10_set 34 = .ok (.aload_n 0, 1) := by decide +kernel
theorem dX10_set_35 : decode cX10_set 35 = .ok (.getfield 7, 3) := by decide +kernel
theorem dX10_set_38 : decode cX10_set 38 = .ok (.iconst 5, 1) := by decide +kernel
theorem dX10_set_39 : decode cX10_set 39 = .ok (.iload_n 1, 1) := by decide +kernel
theorem dX10_set_40 : decode cX10_set 40 = .ok (.iadd, 1) := by decide +kernel
theorem dX10_set_41 : decode cX10_set 41 = .ok (.iaload, 1) := by decide +kernel
theorem dX10_set_42 : decode cX10_set 42 = .ok (.istore_n 3, 1) := by decide +kernel
theorem dX10_set_43 : decode cX10_set 43 = .ok (.aload_n 0, 1) := by decide +kernel
theorem dX10_set_44 : decode cX10_set 44 = .ok (.getfield 7, 3) := by decide +kernel
theorem dX10_set_47 : decode cX10_set 47 = .ok (.iconst 5, 1) := by decide +kernel
theorem dX10_set_48 : decode cX10_set 48 = .ok (.iload_n 1, 1) := by decide +kernel
theorem dX10_set_49 : decode cX10_set 49 = .ok (.iadd, 1) := by decide +kernel
theorem dX10_set_50 : decode cX10_set 50 = .ok (.iload_n 2, 1) := by decide +kernel
theorem dX10_set_51 : decode cX10_set 51 = .ok (.iastore, 1) := by decide +kernel
theorem dX10_set_52 : decode cX10_set 52 = .ok (.aload_n 0, 1) := by decide +kernel
theorem dX10_set_53 : decode cX10_set 53 = .ok (.iload_n 3, 1) := by decide +kernel
theorem dX10_set_54 : decode cX10_set 54 = .ok (.invokevirtual 67, 3) := by decide +kernel
theorem dX10_set_57 : decode cX10_set 57 = .ok (.ireturn, 1) := by decide +kernel
theorem dX10_isPaused_0 : decode cX10_isPaused 0 = .ok (.iconst 0, 1) := by decide +kernel
theorem dX10_isPaused_1 : decode cX10_isPaused 1 = .ok (.istore_n 3, 1) := by decide +kernel
theorem dX10_isPaused_2 : decode cX10_isPaused 2 = .ok (.iconst 0, 1) := by decide +kernel
theorem dX10_isPaused_3 : decode cX10_isPaused 3 = .ok (.istore 4, 2) := by decide +kernel
theorem dX10_isPaused_5 : decode cX10_isPaused 5 = .ok (.iload 4, 2) := by decide +kernel
theorem dX10_isPaused_7 : decode cX10_isPaused 7 = .ok (.aload_n 0, 1) := by decide +kernel
theorem dX10_isPaused_8 : decode cX10_isPaused 8 = .ok (.getfield 7, 3) := by decide +kernel
theorem dX10_isPaused_11 : decode cX10_isPaused 11 = .ok (.iconst 3, 1) := by decide +kernel
theorem dX10_isPaused_12 : decode cX10_isPaused 12 = .ok (.iaload, 1) := by decide +kernel
theorem dX10_isPaused_13 : decode cX10_isPaused 13 = .ok (.if_icmp .ge 65, 3) := by decide +kernel
theorem dX10_isPaused_16 : decode cX10_isPaused 16 = .ok (.sipush 447, 3) := by decide +kernel
theorem dX10_isPaused_19 : decode cX10_isPaused 19 = .ok (.iconst 3, 1) := by decide +kernel
theorem dX10_isPaused_20 : decode cX10_isPaused 20 = .ok (.iload 4, 2) := by decide +kernel
theorem dX10_isPaused_22 : decode cX10_isPaused 22 = .ok (.imul, 1) := by decide +kernel
theorem dX10_isPaused_23 : decode cX10_isPaused 23 = .ok (.iadd, 1) := by decide +kernel
theorem dX10_isPaused_24 : decode cX10_isPaused 24 = .ok (.istore 5, 2) := by decide +kernel
theorem dX10_isPaused_26 : decode cX10_isPaused 26 = .ok (.iload_n 3, 1) := by decide +kernel
theorem dX10_isPaused_27 : decode cX10_isPaused 27 = .ok (.ifCond .ne 39, 3) := by decide +kernel
theorem dX10_isPaused_30 : decode cX10_isPaused 30 = .ok (.aload_n 0, 1) := by decide +kernel
theorem dX10_isPaused_31 : decode cX10_isPaused 31 = .ok (.getfield 7, 3) := by decide +kernel
theorem dX10_isPaused_34 : decode cX10_isPaused 34 = .ok (.iload 5, 2) := by decide +kernel
theorem dX10_isPaused_36 : decode cX10_isPaused 36 = .ok (.iaload, 1) := by decide +kernel
theorem dX10_isPaused_37 : decode cX10_isPaused 37 = .ok (.iload_n 1, 1) := by decide +kernel
theorem dX10_isPaused_38 : decode cX10_isPaused 38 = .ok (.if_icmp .ne 32, 3) := by decide +kernel
theorem dX10_isPaused_41 : decode cX10_isPaused 41 = .ok (.iload_n 2, 1) := by decide +kernel
theorem dX10_isPaused_42 : decode cX10_isPaused 42 = .ok (.aload_n 0, 1) := by decide +kernel
theorem dX10_isPaused_43 : decode cX10_isPaused 43 = .ok (.getfield 7, 3) := by decide +kernel
theorem dX10_isPaused_46 : decode cX10_isPaused 46 = .ok (.iload 5, 2) := by decide +kernel
theorem dX10_isPaused_48 : decode cX10_isPaused 48 = .ok (.iconst 1, 1) := by decide +kernel
theorem dX10_isPaused_49 : decode cX10_isPaused 49 = .ok (.iadd, 1) := by decide +kernel
theorem dX10_isPaused_50 : decode cX10_isPaused 50 = .ok (.iaload, 1) := by decide +kernel
theorem dX10_isPaused_51 : decode cX10_isPaused 51 = .ok (.aload_n 0, 1) := by decide +kernel
theorem dX10_isPaused_52 : decode cX10_isPaused 52 = .ok (.getfield 7, 3) := by decide +kernel
theorem dX10_isPaused_55 : decode cX10_isPaused 55 = .ok (.iload 5, 2) := by decide +kernel
theorem dX10_isPaused_57 : decode cX10_isPaused 57 = .ok (.iconst 2, 1) := by decide +kernel
theorem dX10_isPaused_58 : decode cX10_isPaused 58 = .ok (.iadd, 1) := by decide +kernel
theorem dX10_isPaused_59 : decode cX10_isPaused 59 = .ok (.iaload, 1) := by decide +kernel
theorem dX10_isPaused_60 : decode cX10_isPaused 60 = .ok (.invokestatic 45, 3) := by decide +kernel
theorem dX10_isPaused_63 : decode cX10_isPaused 63 = .ok (.ifCond .eq 7, 3) := by decide +kernel
theorem dX10_isPaused_66 : decode cX10_isPaused 66 = .ok (.iconst 1, 1) := by decide +kernel
theorem dX10_isPaused_67 : decode cX10_isPaused 67 = .ok (.goto 4, 3) := by decide +kernel
theorem dX10_isPaused_70 : decode cX10_isPaused 70 = .ok (.iconst 0, 1) := by decide +kernel
theorem dX10_isPaused_71 : decode cX10_isPaused 71 = .ok (.istore_n 3, 1) := by decide +kernel
theorem dX10_isPaused_72 : decode cX10_isPaused 72 = .ok (.iinc 4 1, 3) := by decide +kernel
theorem dX10_isPaused_75 : decode cX10_isPaused 75 = .ok (.goto (-70), 3) := by decide +kernel
theorem dX10_isPaused_78 : decode cX10_isPaused 78 = .ok (.iload_n 3, 1) := by decide +kernel
theorem dX10_isPaused_79 : decode cX10_isPaused 79 = .ok (.ireturn, 1) := by decide +kernel
theorem dX10_isOut_0 : decode cX10_isOut 0 = .ok (.aload_n 0, 1) := by decide +kernel
theorem dX10_isOut_1 : decode cX10_isOut 1 = .ok (.iload_n 1, 1) := by decide +kernel
theorem dX10_isOut_2 : decode cX10_isOut 2 = .ok (.iconst 4, 1) := by decide +kernel
theorem dX10_isOut_3 : decode cX10_isOut 3 = .ok (.invokevirtual 57, 3) := by decide +kernel
theorem dX10_isOut_6 : decode cX10_isOut 6 = .ok (.istore_n 3, 1) := by decide +kernel
theorem dX10_isOut_7 : decode cX10_isOut 7 = .ok (.iload_n 3, 1) := by decide +kernel
theorem dX10_isOut_8 : decode cX10_isOut 8 = .ok (.ifCond .le 21, 3) := by decide +kernel
theorem dX10_isOut_11 : decode cX10_isOut 11 = .ok (.iload_n 2, 1) := by decide +kernel
theorem dX10_isOut_12 : decode cX10_isOut 12 = .ok (.iload_n 3, 1) := by decide +kernel
theorem dX10_isOut_13 : decode cX10_isOut 13 = .ok (.irem, 1) := by decide +kernel
theorem dX10_isOut_14 : decode cX10_isOut 14 = .ok (.aload_n 0, 1) := by decide +kernel
theorem dX10_isOut_15 : decode cX10_isOut 15 = .ok (.iload_n 1, 1) := by decide +kernel
theorem dX10_isOut_16 : decode cX10_isOut 16 = .ok (.iconst 5, 1) := by decide +kernel
theorem dX10_isOut_17 : decode cX10_isOut 17 = .ok (.invokevirtual 57, 3) := by decide +kernel
theorem dX10_isOut_20 : decode cX10_isOut 20 = .ok (.iload_n 3, 1) := by decide +kernel
theorem dX10_isOut_21 : decode cX10_isOut 21 = .ok (.irem, 1) := by decide +kernel
theorem dX10_isOut_22 : decode cX10_isOut 22 = .ok (.if_icmp .ne 7, 3) := by decide +kernel
theorem dX10_isOut_25 : decode cX10_isOut 25 = .ok (.iconst 1, 1) := by decide +kernel
theorem dX10_isOut_26 : decode cX10_isOut 26 = .ok (.goto 4, 3) := by decide +kernel
theorem dX10_isOut_29 : decode cX10_isOut 29 = .ok (.iconst 0, 1) := by decide +kernel
theorem dX10_isOut_30 : decode cX10_isOut 30 = .ok (.ireturn, 1) := by decide +kernel
theorem dX10_weightOn_0 : decode cX10_weightOn 0 = .ok (.aload_n 0, 1) := by decide +kernel
theorem dX10_weightOn_1 : decode cX10_weightOn 1 = .ok (.iload_n 1, 1) := by decide +kernel
theorem dX10_weightOn_2 : decode cX10_weightOn 2 = .ok (.iconst 1, 1) := by decide +kernel
theorem dX10_weightOn_3 : decode cX10_weightOn 3 = .ok (.invokevirtual 57, 3) := by decide +kernel
theorem dX10_weightOn_6 : decode cX10_weightOn 6 = .ok (.iload_n 2, 1) := by decide +kernel
theorem dX10_weightOn_7 : decode cX10_weightOn 7 = .ok (.bipush 7, 2) := by decide +kernel
theorem dX10_weightOn_9 : decode cX10_weightOn 9 = .ok (.irem, 1) := by decide +kernel
theorem dX10_weightOn_10 : decode cX10_weightOn 10 = .ok (.bipush 6, 2) := by decide +kernel
theorem dX10_weightOn_12 : decode cX10_weightOn 12 = .ok (.if_icmp .ne 13, 3) := by decide +kernel
theorem dX10_weightOn_15 : decode cX10_weightOn 15 = .ok (.aload_n 0, 1) := by decide +kernel
theorem dX10_weightOn_16 : decode cX10_weightOn 16 = .ok (.getfield 7, 3) := by decide +kernel
theorem dX10_weightOn_19 : decode cX10_weightOn 19 = .ok (.bipush 6, 2) := by decide +kernel
theorem dX10_weightOn_21 : decode cX10_weightOn 21 = .ok (.iaload, 1) := by decide +kernel
theorem dX10_weightOn_22 : decode cX10_weightOn 22 = .ok (.goto 9, 3) := by decide +kernel
theorem dX10_weightOn_25 : decode cX10_weightOn 25 = .ok (.aload_n 0, 1) := by decide +kernel
theorem dX10_weightOn_26 : decode cX10_weightOn 26 = .ok (.getfield 7, 3) := by decide +kernel
theorem dX10_weightOn_29 : decode cX10_weightOn 29 = .ok (.iconst 5, 1) := by decide +kernel
theorem dX10_weightOn_30 : decode cX10_weightOn 30 = .ok (.iaload, 1) := by decide +kernel
theorem dX10_weightOn_31 : decode cX10_weightOn 31 = .ok (.imul, 1) := by decide +kernel
theorem dX10_weightOn_32 : decode cX10_weightOn 32 = .ok (.ireturn, 1) := by decide +kernel
theorem dX10_loads_0 : decode cX10_loads 0 = .ok (.iload_n 1, 1) := by decide +kernel
theorem dX10_loads_1 : decode cX10_loads 1 = .ok (.istore_n 3, 1) := by decide +kernel
theorem dX10_loads_2 : decode cX10_loads 2 = .ok (.iload_n 3, 1) := by decide +kernel
theorem dX10_loads_3 : decode cX10_loads 3 = .ok (.ifCond .le 23, 3) := by decide +kernel
theorem dX10_loads_6 : decode cX10_loads 6 = .ok (.aload_n 0, 1) := by decide +kernel
theorem dX10_loads_7 : decode cX10_loads 7 = .ok (.getfield 31, 3) := by decide +kernel
theorem dX10_loads_10 : decode cX10_loads 10 = .ok (.iload_n 3, 1) := by decide +kernel
theorem dX10_loads_11 : decode cX10_loads 11 = .ok (.dup2, 1) := by decide +kernel
theorem dX10_loads_12 : decode cX10_loads 12 = .ok (.iaload, 1) := by decide +kernel
theorem dX10_loads_13 : decode cX10_loads 13 = .ok (.iload_n 2, 1) := by decide +kernel
theorem dX10_loads_14 : decode cX10_loads 14 = .ok (.iadd, 1) := by decide +kernel
theorem dX10_loads_15 : decode cX10_loads 15 = .ok (.iastore, 1) := by decide +kernel
theorem dX10_loads_16 : decode cX10_loads 16 = .ok (.aload_n 0, 1) := by decide +kernel
theorem dX10_loads_17 : decode cX10_loads 17 = .ok (.iload_n 3, 1) := by decide +kernel
theorem dX10_loads_18 : decode cX10_loads 18 = .ok (.iconst 0, 1) := by decide +kernel
theorem dX10_loads_19 : decode cX10_loads 19 = .ok (.invokevirtual 49, 3) := by decide +kernel
theorem dX10_loads_22 : decode cX10_loads 22 = .ok (.istore_n 3, 1) := by decide +kernel
theorem dX10_loads_23 : decode cX10_loads 23 = .ok (.goto (-21), 3) := by decide +kernel
theorem dX10_loads_26 : decode cX10_loads 26 = .ok (.return_, 1) := by decide +kernel
theorem dX10_endsTrip_0 : decode cX10_endsTrip 0 = .ok (.aload_n 0, 1) := by decide +kernel
theorem dX10_endsTrip_1 : decode cX10_endsTrip 1 = .ok (.iload_n 1, 1) := by decide +kernel
theorem dX10_endsTrip_2 : decode cX10_endsTrip 2 = .ok (.iconst 0, 1) := by decide +kernel
theorem dX10_endsTrip_3 : decode cX10_endsTrip 3 = .ok (.invokevirtual 85, 3) := by decide +kernel
theorem dX10_endsTrip_6 : decode cX10_endsTrip 6 = .ok (.iconst 1, 1) := by decide +kernel
theorem dX10_endsTrip_7 : decode cX10_endsTrip 7 = .ok (.if_icmp .ne 8, 3) := by decide +kernel
theorem dX10_endsTrip_10 : decode cX10_endsTrip 10 = .ok (.bipush 20, 2) := by decide +kernel
theorem dX10_endsTrip_12 : decode cX10_endsTrip 12 = .ok (.goto 5, 3) := by decide +kernel
theorem dX10_endsTrip_15 : decode cX10_endsTrip 15 = .ok (.bipush 10, 2) := by decide +kernel
theorem dX10_endsTrip_17 : decode cX10_endsTrip 17 = .ok (.istore_n 2, 1) := by decide +kernel
theorem dX10_endsTrip_18 : decode cX10_endsTrip 18 = .ok (.iconst 1, 1) := by decide +kernel
theorem dX10_endsTrip_19 : decode cX10_endsTrip 19 = .ok (.istore_n 3, 1) := by decide +kernel
theorem dX10_endsTrip_20 : decode cX10_endsTrip 20 = .ok (.iload_n 3, 1) := by decide +kernel
theorem dX10_endsTrip_21 : decode cX10_endsTrip 21 = .ok (.aload_n 0, 1) := by decide +kernel
theorem dX10_endsTrip_22 : decode cX10_endsTrip 22 = .ok (.getfield 7, 3) := by decide +kernel
theorem dX10_endsTrip_25 : decode cX10_endsTrip 25 = .ok (.iconst 0, 1) := by decide +kernel
theorem dX10_endsTrip_26 : decode cX10_endsTrip 26 = .ok (.iaload, 1) := by decide +kernel
theorem dX10_endsTrip_27 : decode cX10_endsTrip 27 = .ok (.if_icmp .ge 87, 3) := by decide +kernel
theorem dX10_endsTrip_30 : decode cX10_endsTrip 30 = .ok (.aload_n 0, 1) := by decide +kernel
theorem dX10_endsTrip_31 : decode cX10_endsTrip 31 = .ok (.iload_n 3, 1) := by decide +kernel
theorem dX10_endsTrip_32 : decode cX10_endsTrip 32 = .ok (.iconst 2, 1) := by decide +kernel
theorem dX10_endsTrip_33 : decode cX10_endsTrip 33 = .ok (.invokevirtual 49, 3) := by decide +kernel
theorem dX10_endsTrip_36 : decode cX10_endsTrip 36 = .ok (.aload_n 0, 1) := by decide +kernel
theorem dX10_endsTrip_37 : decode cX10_endsTrip 37 = .ok (.aload_n 0, 1) := by decide +kernel
theorem dX10_endsTrip_38 : decode cX10_endsTrip 38 = .ok (.iload_n 3, 1) := by decide +kernel
theorem dX10_endsTrip_39 : decode cX10_endsTrip 39 = .ok (.iconst 0, 1) := by decide +kernel
theorem dX10_endsTrip_40 : decode cX10_endsTrip 40 = .ok (.invokevirtual 49, 3) := by decide +kernel
theorem dX10_endsTrip_43 : decode cX10_endsTrip 43 = .ok (.iconst 2, 1) := by decide +kernel
theorem dX10_endsTrip_44 : decode cX10_endsTrip 44 = .ok (.invokevirtual 49, 3) := by decide +kernel
theorem dX10_endsTrip_47 : decode cX10_endsTrip 47 = .ok (.isub, 1) := by decide +kernel
theorem dX10_endsTrip_48 : decode cX10_endsTrip 48 = .ok (.istore 4, 2) := by decide +kernel
theorem dX10_endsTrip_50 : decode cX10_endsTrip 50 = .ok (.aload_n 0, 1) := by decide +kernel
theorem dX10_endsTrip_51 : decode cX10_endsTrip 51 = .ok (.getfield 31, 3) := by decide +kernel
theorem dX10_endsTrip_54 : decode cX10_endsTrip 54 = .ok (.iload_n 3, 1) := by decide +kernel
theorem dX10_endsTrip_55 : decode cX10_endsTrip 55 = .ok (.iaload, 1) := by decide +kernel
theorem dX10_endsTrip_56 : decode cX10_endsTrip 56 = .ok (.ifCond .le 45, 3) := by decide +kernel
theorem dX10_endsTrip_59 : decode cX10_endsTrip 59 = .ok (.aload_n 0, 1) := by decide +kernel
theorem dX10_endsTrip_60 : decode cX10_endsTrip 60 = .ok (.dup, 1) := by decide +kernel
theorem dX10_endsTrip_61 : decode cX10_endsTrip 61 = .ok (.getfield 109, 3) := by decide +kernel
theorem dX10_endsTrip_64 : decode cX10_endsTrip 64 = .ok (.iconst 2, 1) := by decide +kernel
theorem dX10_endsTrip_65 : decode cX10_endsTrip 65 = .ok (.aload_n 0, 1) := by decide +kernel
theorem dX10_endsTrip_66 : decode cX10_endsTrip 66 = .ok (.iload_n 3, 1) := by decide +kernel
theorem dX10_endsTrip_67 : decode cX10_endsTrip 67 = .ok (.iconst 1, 1) := by decide +kernel
theorem dX10_endsTrip_68 : decode cX10_endsTrip 68 = .ok (.invokevirtual 49, 3) := by decide +kernel
theorem dX10_endsTrip_71 : decode cX10_endsTrip 71 = .ok (.imul, 1) := by decide +kernel
theorem dX10_endsTrip_72 : decode cX10_endsTrip 72 = .ok (.iload 4, 2) := by decide +kernel
theorem dX10_endsTrip_74 : decode cX10_endsTrip 74 = .ok (.ifCond .le 19, 3) := by decide +kernel
theorem dX10_endsTrip_77 : decode cX10_endsTrip 77 = .ok (.iload 4, 2) := by decide +kernel
theorem dX10_endsTrip_79 : decode cX10_endsTrip 79 = .ok (.iload_n 2, 1) := by decide +kernel
theorem dX10_endsTrip_80 : decode cX10_endsTrip 80 = .ok (.aload_n 0, 1) := by decide +kernel
theorem dX10_endsTrip_81 : decode cX10_endsTrip 81 = .ok (.getfield 31, 3) := by decide +kernel
theorem dX10_endsTrip_84 : decode cX10_endsTrip 84 = .ok (.iload_n 3, 1) := by decide +kernel
theorem dX10_endsTrip_85 : decode cX10_endsTrip 85 = .ok (.iaload, 1) := by decide +kernel
theorem dX10_endsTrip_86 : decode cX10_endsTrip 86 = .ok (.iadd, 1) := by decide +kernel
theorem dX10_endsTrip_87 : decode cX10_endsTrip 87 = .ok (.imul, 1) := by decide +kernel
theorem dX10_endsTrip_88 : decode cX10_endsTrip 88 = .ok (.iload_n 2, 1) := by decide +kernel
theorem dX10_endsTrip_89 : decode cX10_endsTrip 89 = .ok (.idiv, 1) := by decide +kernel
theorem dX10_endsTrip_90 : decode cX10_endsTrip 90 = .ok (.goto 6, 3) := by decide +kernel
theorem dX10_endsTrip_93 : decode cX10_endsTrip 93 = .ok (.iload 4, 2) := by decide +kernel
theorem dX10_endsTrip_95 : decode cX10_endsTrip 95 = .ok (.ineg, 1) := by decide +kernel
theorem dX10_endsTrip_96 : decode cX10_endsTrip 96 = .ok (.iadd, 1) := by decide +kernel
theorem dX10_endsTrip_97 : decode cX10_endsTrip 97 = .ok (.iadd, 1) := by decide +kernel
theorem dX10_endsTrip_98 : decode cX10_endsTrip 98 = .ok (.putfield 109, 3) := by decide +kernel
theorem dX10_endsTrip_101 : decode cX10_endsTrip 101 = .ok (.aload_n 0, 1) := by decide +kernel
theorem dX10_endsTrip_102 : decode cX10_endsTrip 102 = .ok (.getfield 31, 3) := by decide +kernel
theorem dX10_endsTrip_105 : decode cX10_endsTrip 105 = .ok (.iload_n 3, 1) := by decide +kernel
theorem dX10_endsTrip_106 : decode cX10_endsTrip 106 = .ok (.iconst 0, 1) := by decide +kernel
theorem dX10_endsTrip_107 : decode cX10_endsTrip 107 = .ok (.iastore, 1) := by decide +kernel
theorem dX10_endsTrip_108 : decode cX10_endsTrip 108 = .ok (.iinc 3 1, 3) := by decide +kernel
theorem dX10_endsTrip_111 : decode cX10_endsTrip 111 = .ok (.goto (-91), 3) := by decide +kernel
theorem dX10_endsTrip_114 : decode cX10_endsTrip 114 = .ok (.return_, 1) := by decide +kernel
theorem dX10_complains_0 : decode cX10_complains 0 = .ok (.aload_n 0, 1) := by decide +kernel
theorem dX10_complains_1 : decode cX10_complains 1 = .ok (.iload_n 1, 1) := by decide +kernel
theorem dX10_complains_2 : decode cX10_complains 2 = .ok (.bipush 11, 2) := by decide +kernel
theorem dX10_complains_4 : decode cX10_complains 4 = .ok (.aload_n 0, 1) := by decide +kernel
theorem dX10_complains_5 : decode cX10_complains 5 = .ok (.iload_n 1, 1) := by decide +kernel
theorem dX10_complains_6 : decode cX10_complains 6 = .ok (.bipush 11, 2) := by decide +kernel
theorem dX10_complains_8 : decode cX10_complains 8 = .ok (.invokevirtual 57, 3) := by decide +kernel
theorem dX10_complains_11 : decode cX10_complains 11 = .ok (.iconst 1, 1) := by decide +kernel
theorem dX10_complains_12 : decode cX10_complains 12 = .ok (.iadd, 1) := by decide +kernel
theorem dX10_complains_13 : decode cX10_complains 13 = .ok (.invokevirtual 71, 3) := by decide +kernel
theorem dX10_complains_16 : decode cX10_complains 16 = .ok (.aload_n 0, 1) := by decide +kernel
theorem dX10_complains_17 : decode cX10_complains 17 = .ok (.iload_n 1, 1) := by decide +kernel
theorem dX10_complains_18 : decode cX10_complains 18 = .ok (.bipush 12, 2) := by decide +kernel
theorem dX10_complains_20 : decode cX10_complains 20 = .ok (.aload_n 0, 1) := by decide +kernel
theorem dX10_complains_21 : decode cX10_complains 21 = .ok (.iload_n 1, 1) := by decide +kernel
theorem dX10_complains_22 : decode cX10_complains 22 = .ok (.bipush 12, 2) := by decide +kernel
theorem dX10_complains_24 : decode cX10_complains 24 = .ok (.invokevirtual 57, 3) := by decide +kernel
theorem dX10_complains_27 : decode cX10_complains 27 = .ok (.iconst 1, 1) := by decide +kernel
theorem dX10_complains_28 : decode cX10_complains 28 = .ok (.iadd, 1) := by decide +kernel
theorem dX10_complains_29 : decode cX10_complains 29 = .ok (.invokevirtual 71, 3) := by decide +kernel
theorem dX10_complains_32 : decode cX10_complains 32 = .ok (.return_, 1) := by decide +kernel
theorem dX10_become_0 : decode cX10_become 0 = .ok (.aload_n 0, 1) := by decide +kernel
theorem dX10_become_1 : decode cX10_become 1 = .ok (.iload_n 1, 1) := by decide +kernel
theorem dX10_become_2 : decode cX10_become 2 = .ok (.iload_n 2, 1) := by decide +kernel
theorem dX10_become_3 : decode cX10_become 3 = .ok (.aload_n 0, 1) := by decide +kernel
theorem dX10_become_4 : decode cX10_become 4 = .ok (.iload_n 1, 1) := by decide +kernel
theorem dX10_become_5 : decode cX10_become 5 = .ok (.iload_n 2, 1) := by decide +kernel
theorem dX10_become_6 : decode cX10_become 6 = .ok (.invokevirtual 57, 3) := by decide +kernel
theorem dX10_become_9 : decode cX10_become 9 = .ok (.aload_n 0, 1) := by decide +kernel
theorem dX10_become_10 : decode cX10_become 10 = .ok (.iload_n 1, 1) := by decide +kernel
theorem dX10_become_11 : decode cX10_become 11 = .ok (.iconst 1, 1) := by decide +kernel
theorem dX10_become_12 : decode cX10_become 12 = .ok (.invokevirtual 57, 3) := by decide +kernel
theorem dX10_become_15 : decode cX10_become 15 = .ok (.iadd, 1) := by decide +kernel
theorem dX10_become_16 : decode cX10_become 16 = .ok (.invokevirtual 71, 3) := by decide +kernel
theorem dX10_become_19 : decode cX10_become 19 = .ok (.return_, 1) := by decide +kernel
theorem dX10_delivers_0 : decode cX10_delivers 0 = .ok (.aload_n 0, 1) := by decide +kernel
theorem dX10_delivers_1 : decode cX10_delivers 1 = .ok (.iload_n 2, 1) := by decide +kernel
theorem dX10_delivers_2 : decode cX10_delivers 2 = .ok (.iload_n 3, 1) := by decide +kernel
theorem dX10_delivers_3 : decode cX10_delivers 3 = .ok (.invokevirtual 112, 3) := by decide +kernel
theorem dX10_delivers_6 : decode cX10_delivers 6 = .ok (.istore 4, 2) := by decide +kernel
theorem dX10_delivers_8 : decode cX10_delivers 8 = .ok (.iload 4, 2) := by decide +kernel
theorem dX10_delivers_10 : decode cX10_delivers 10 = .ok (.ifCond .eq 26, 3) := by decide +kernel
theorem dX10_delivers_13 : decode cX10_delivers 13 = .ok (.aload_n 0, 1) := by decide +kernel
theorem dX10_delivers_14 : decode cX10_delivers 14 = .ok (.iload_n 1, 1) := by decide +kernel
theorem dX10_delivers_15 : decode cX10_delivers 15 = .ok (.iconst 2, 1) := by decide +kernel
theorem dX10_delivers_16 : decode cX10_delivers 16 = .ok (.invokevirtual 85, 3) := by decide +kernel
theorem dX10_delivers_19 : decode cX10_delivers 19 = .ok (.ifCond .ne 17, 3) := by decide +kernel
theorem dX10_delivers_22 : decode cX10_delivers 22 = .ok (.aload_n 0, 1) := by decide +kernel
theorem dX10_delivers_23 : decode cX10_delivers 23 = .ok (.iload_n 2, 1) := by decide +kernel
theorem dX10_delivers_24 : decode cX10_delivers 24 = .ok (.bipush 8, 2) := by decide +kernel
theorem dX10_delivers_26 : decode cX10_delivers 26 = .ok (.invokevirtual 115, 3) := by decide +kernel
theorem dX10_delivers_29 : decode cX10_delivers 29 = .ok (.aload_n 0, 1) := by decide +kernel
theorem dX10_delivers_30 : decode cX10_delivers 30 = .ok (.iload_n 2, 1) := by decide +kernel
theorem dX10_delivers_31 : decode cX10_delivers 31 = .ok (.invokevirtual 119, 3) := by decide +kernel
theorem dX10_delivers_34 : decode cX10_delivers 34 = .ok (.iconst 0, 1) := by decide +kernel
theorem dX10_delivers_35 : decode cX10_delivers 35 = .ok (.ireturn, 1) := by decide +kernel
theorem dX10_delivers_36 : decode cX10_delivers 36 = .ok (.aload_n 0, 1) := by decide +kernel
theorem dX10_delivers_37 : decode cX10_delivers 37 = .ok (.iload_n 1, 1) := by decide +kernel
theorem dX10_delivers_38 : decode cX10_delivers 38 = .ok (.iconst 2, 1) := by decide +kernel
theorem dX10_delivers_39 : decode cX10_delivers 39 = .ok (.iload 4, 2) := by decide +kernel
theorem dX10_delivers_41 : decode cX10_delivers 41 = .ok (.ifCond .eq 7, 3) := by decide +kernel
theorem dX10_delivers_44 : decode cX10_delivers 44 = .ok (.iconst (-1), 1) := by decide +kernel
theorem dX10_delivers_45 : decode cX10_delivers 45 = .ok (.goto 4, 3) := by decide +kernel
theorem dX10_delivers_48 : decode cX10_delivers 48 = .ok (.iconst 0, 1) := by decide +kernel
theorem dX10_delivers_49 : decode cX10_delivers 49 = .ok (.invokevirtual 82, 3) := by decide +kernel
theorem dX10_delivers_52 : decode cX10_delivers 52 = .ok (.aload_n 0, 1) := by decide +kernel
theorem dX10_delivers_53 : decode cX10_delivers 53 = .ok (.iload_n 2, 1) := by decide +kernel
theorem dX10_delivers_54 : decode cX10_delivers 54 = .ok (.bipush 6, 2) := by decide +kernel
theorem dX10_delivers_56 : decode cX10_delivers 56 = .ok (.invokevirtual 115, 3) := by decide +kernel
theorem dX10_delivers_59 : decode cX10_delivers 59 = .ok (.aload_n 0, 1) := by decide +kernel
theorem dX10_delivers_60 : decode cX10_delivers 60 = .ok (.iload_n 2, 1) := by decide +kernel
theorem dX10_delivers_61 : decode cX10_delivers 61 = .ok (.bipush 13, 2) := by decide +kernel
theorem dX10_delivers_63 : decode cX10_delivers 63 = .ok (.iconst 1, 1) := by decide +kernel
theorem dX10_delivers_64 : decode cX10_delivers 64 = .ok (.invokevirtual 71, 3) := by decide +kernel
theorem dX10_delivers_67 : decode cX10_delivers 67 = .ok (.aload_n 0, 1) := by decide +kernel
theorem dX10_delivers_68 : decode cX10_delivers 68 = .ok (.iload_n 1, 1) := by decide +kernel
theorem dX10_delivers_69 : decode cX10_delivers 69 = .ok (.bipush 6, 2) := by decide +kernel
theorem dX10_delivers_71 : decode cX10_delivers 71 = .ok (.aload_n 0, 1) := by decide +kernel
theorem dX10_delivers_72 : decode cX10_delivers 72 = .ok (.iload_n 2, 1) := by decide +kernel
theorem dX10_delivers_73 : decode cX10_delivers 73 = .ok (.iconst 1, 1) := by decide +kernel
theorem dX10_delivers_74 : decode cX10_delivers 74 = .ok (.invokevirtual 57, 3) := by decide +kernel
theorem dX10_delivers_77 : decode cX10_delivers 77 = .ok (.invokevirtual 82, 3) := by decide +kernel
theorem dX10_delivers_80 : decode cX10_delivers 80 = .ok (.iconst 1, 1) := by decide +kernel
theorem dX10_delivers_81 : decode cX10_delivers 81 = .ok (.ireturn, 1) := by decide +kernel
theorem dX10_goes_0 : decode cX10_goes 0 = .ok (.aload_n 0, 1) := by decide +kernel
theorem dX10_goes_1 : decode cX10_goes 1 = .ok (.iload_n 1, 1) := by decide +kernel
theorem dX10_goes_2 : decode cX10_goes 2 = .ok (.iconst 1, 1) := by decide +kernel
theorem dX10_goes_3 : decode cX10_goes 3 = .ok (.invokevirtual 85, 3) := by decide +kernel
theorem dX10_goes_6 : decode cX10_goes 6 = .ok (.istore 4, 2) := by decide +kernel
theorem dX10_goes_8 : decode cX10_goes 8 = .ok (.iconst 0, 1) := by decide +kernel
theorem dX10_goes_9 : decode cX10_goes 9 = .ok (.istore 5, 2) := by decide +kernel
theorem dX10_goes_11 : decode cX10_goes 11 = .ok (.iconst 0, 1) := by decide +kernel
theorem dX10_goes_12 : decode cX10_goes 12 = .ok (.istore 6, 2) := by decide +kernel
theorem dX10_goes_14 : decode cX10_goes 14 = .ok (.aload_n 0, 1) := by decide +kernel
theorem dX10_goes_15 : decode cX10_goes 15 = .ok (.iconst 0, 1) := by decide +kernel
theorem dX10_goes_16 : decode cX10_goes 16 = .ok (.putfield 123, 3) := by decide +kernel
theorem dX10_goes_19 : decode cX10_goes 19 = .ok (.aload_n 0, 1) := by decide +kernel
theorem dX10_goes_20 : decode cX10_goes 20 = .ok (.iconst 0, 1) := by decide +kernel
theorem dX10_goes_21 : decode cX10_goes 21 = .ok (.putfield 109, 3) := by decide +kernel
theorem dX10_goes_24 : decode cX10_goes 24 = .ok (.aload_n 0, 1) := by decide +kernel
theorem dX10_goes_25 : decode cX10_goes 25 = .ok (.iconst 0, 1) := by decide +kernel
theorem dX10_goes_26 : decode cX10_goes 26 = .ok (.putfield 126, 3) := by decide +kernel
theorem dX10_goes_29 : decode cX10_goes 29 = .ok (.aload_n 0, 1) := by decide +kernel
theorem dX10_goes_30 : decode cX10_goes 30 = .ok (.iconst 0, 1) := by decide +kernel
theorem dX10_goes_31 : decode cX10_goes 31 = .ok (.putfield 129, 3) := by decide +kernel
theorem dX10_goes_34 : decode cX10_goes 34 = .ok (.aload_n 0, 1) := by decide +kernel
theorem dX10_goes_35 : decode cX10_goes 35 = .ok (.invokevirtual 132, 3) := by decide +kernel
theorem dX10_goes_38 : decode cX10_goes 38 = .ok (.iconst 0, 1) := by decide +kernel
theorem dX10_goes_39 : decode cX10_goes 39 = .ok (.istore 7, 2) := by decide +kernel
theorem dX10_goes_41 : decode cX10_goes 41 = .ok (.iload 7, 2) := by decide +kernel
theorem dX10_goes_43 : decode cX10_goes 43 = .ok (.bipush 20, 2) := by decide +kernel
theorem dX10_goes_45 : decode cX10_goes 45 = .ok (.if_icmp .ge 17, 3) := by decide +kernel
theorem dX10_goes_48 : decode cX10_goes 48 = .ok (.aload_n 0, 1) := by decide +kernel
theorem dX10_goes_49 : decode cX10_goes 49 = .ok (.getfield 31, 3) := by decide +kernel
theorem dX10_goes_52 : decode cX10_goes 52 = .ok (.iload 7, 2) := by decide +kernel
theorem dX10_goes_54 : decode cX10_goes 54 = .ok (.iconst 0, 1) := by decide +kernel
theorem dX10_goes_55 : decode cX10_goes 55 = .ok (.iastore, 1) := by decide +kernel
theorem dX10_goes_56 : decode cX10_goes 56 = .ok (.iinc 7 1, 3) := by decide +kernel
theorem dX10_goes_59 : decode cX10_goes 59 = .ok (.goto (-18), 3) := by decide +kernel
theorem dX10_goes_62 : decode cX10_goes 62 = .ok (.iconst 0, 1) := by decide +kernel
theorem dX10_goes_63 : decode cX10_goes 63 = .ok (.istore 7, 2) := by decide +kernel
theorem dX10_goes_65 : decode cX10_goes 65 = .ok (.iload 7, 2) := by decide +kernel
theorem dX10_goes_67 : decode cX10_goes 67 = .ok (.aload_n 0, 1) := by decide +kernel
theorem dX10_goes_68 : decode cX10_goes 68 = .ok (.getfield 7, 3) := by decide +kernel
theorem dX10_goes_71 : decode cX10_goes 71 = .ok (.iconst 1, 1) := by decide +kernel
theorem dX10_goes_72 : decode cX10_goes 72 = .ok (.iaload, 1) := by decide +kernel
theorem dX10_goes_73 : decode cX10_goes 73 = .ok (.if_icmp .ge 263, 3) := by decide +kernel
theorem dX10_goes_76 : decode cX10_goes 76 = .ok (.aload_n 0, 1) := by decide +kernel
theorem dX10_goes_77 : decode cX10_goes 77 = .ok (.getfield 28, 3) := by decide +kernel
theorem dX10_goes_80 : decode cX10_goes 80 = .ok (.iload 7, 2) := by decide +kernel
theorem dX10_goes_82 : decode cX10_goes 82 = .ok (.iaload, 1) := by decide +kernel
theorem dX10_goes_83 : decode cX10_goes 83 = .ok (.istore 8, 2) := by decide +kernel
theorem dX10_goes_85 : decode cX10_goes 85 = .ok (.aload_n 0, 1) := by decide +kernel
theorem dX10_goes_86 : decode cX10_goes 86 = .ok (.iload 8, 2) := by decide +kernel
theorem dX10_goes_88 : decode cX10_goes 88 = .ok (.iload_n 2, 1) := by decide +kernel
theorem dX10_goes_89 : decode cX10_goes 89 = .ok (.invokevirtual 135, 3) := by decide +kernel
theorem dX10_goes_92 : decode cX10_goes 92 = .ok (.istore 9, 2) := by decide +kernel
theorem dX10_goes_94 : decode cX10_goes 94 = .ok (.aload_n 0, 1) := by decide +kernel
theorem dX10_goes_95 : decode cX10_goes 95 = .ok (.iload 8, 2) := by decide +kernel
theorem dX10_goes_97 : decode cX10_goes 97 = .ok (.iconst 3, 1) := by decide +kernel
theorem dX10_goes_98 : decode cX10_goes 98 = .ok (.invokevirtual 57, 3) := by decide +kernel
theorem dX10_goes_101 : decode cX10_goes 101 = .ok (.iload_n 1, 1) := by decide +kernel
theorem dX10_goes_102 : decode cX10_goes 102 = .ok (.if_icmp .ne 17, 3) := by decide +kernel
theorem dX10_goes_105 : decode cX10_goes 105 = .ok (.aload_n 0, 1) := by decide +kernel
theorem dX10_goes_106 : decode cX10_goes 106 = .ok (.iload 8, 2) := by decide +kernel
theorem dX10_goes_108 : decode cX10_goes 108 = .ok (.iload_n 2, 1) := by decide +kernel
theorem dX10_goes_109 : decode cX10_goes 109 = .ok (.invokevirtual 138, 3) := by decide +kernel
theorem dX10_goes_112 : decode cX10_goes 112 = .ok (.ifCond .ne 7, 3) := by decide +kernel
theorem dX10_goes_115 : decode cX10_goes 115 = .ok (.iconst 1, 1) := by decide +kernel
theorem dX10_goes_116 : decode cX10_goes 116 = .ok (.goto 4, 3) := by decide +kernel
theorem dX10_goes_119 : decode cX10_goes 119 = .ok (.iconst 0, 1) := by decide +kernel
theorem dX10_goes_120 : decode cX10_goes 120 = .ok (.istore 10, 2) := by decide +kernel
theorem dX10_goes_122 : decode cX10_goes 122 = .ok (.iload 10, 2) := by decide +kernel
theorem dX10_goes_124 : decode cX10_goes 124 = .ok (.ifCond .eq 28, 3) := by decide +kernel
theorem dX10_goes_127 : decode cX10_goes 127 = .ok (.iload 9, 2) := by decide +kernel
theorem dX10_goes_129 : decode cX10_goes 129 = .ok (.iload 4, 2) := by decide +kernel
theorem dX10_goes_131 : decode cX10_goes 131 = .ok (.if_icmp .le 21, 3) := by decide +kernel
theorem dX10_goes_134 : decode cX10_goes 134 = .ok (.iload_n 3, 1) := by decide +kernel
theorem dX10_goes_135 : decode cX10_goes 135 = .ok (.ifCond .eq 17, 3) := by decide +kernel
theorem dX10_goes_138 : decode cX10_goes 138 = .ok (.aload_n 0, 1) := by decide +kernel
theorem dX10_goes_139 : decode cX10_goes 139 = .ok (.iload 8, 2) := by decide +kernel
theorem dX10_goes_141 : decode cX10_goes 141 = .ok (.bipush 9, 2) := by decide +kernel
theorem dX10_goes_143 : decode cX10_goes 143 = .ok (.invokevirtual 115, 3) := by decide +kernel
theorem dX10_goes_146 : decode cX10_goes 146 = .ok (.aload_n 0, 1) := by decide +kernel
theorem dX10_goes_147 : decode cX10_goes 147 = .ok (.iload 8, 2) := by decide +kernel
theorem dX10_goes_149 : decode cX10_goes 149 = .ok (.invokevirtual 119, 3) := by decide +kernel
theorem dX10_goes_152 : decode cX10_goes 152 = .ok (.iload 10, 2) := by decide +kernel
theorem dX10_goes_154 : decode cX10_goes 154 = .ok (.ifCond .eq 176, 3) := by decide +kernel
theorem dX10_goes_157 : decode cX10_goes 157 = .ok (.iload 9, 2) := by decide +kernel
theorem dX10_goes_159 : decode cX10_goes 159 = .ok (.iload 4, 2) := by decide +kernel
theorem dX10_goes_161 : decode cX10_goes 161 = .ok (.if_icmp .gt 169, 3) := by decide +kernel
theorem dX10_goes_164 : decode cX10_goes 164 = .ok (.aload_n 0, 1) := by decide +kernel
theorem dX10_goes_165 : decode cX10_goes 165 = .ok (.getfield 123, 3) := by decide +kernel
theorem dX10_goes_168 : decode cX10_goes 168 = .ok (.ifCond .le 18, 3) := by decide +kernel
theorem dX10_goes_171 : decode cX10_goes 171 = .ok (.iload 5, 2) := by decide +kernel
theorem dX10_goes_173 : decode cX10_goes 173 = .ok (.iload 9, 2) := by decide +kernel
theorem dX10_goes_175 : decode cX10_goes 175 = .ok (.iadd, 1) := by decide +kernel
theorem dX10_goes_176 : decode cX10_goes 176 = .ok (.iload 4, 2) := by decide +kernel
theorem dX10_goes_178 : decode cX10_goes 178 = .ok (.if_icmp .le 8, 3) := by decide +kernel
theorem dX10_goes_181 : decode cX10_goes 181 = .ok (.aload_n 0, 1) := by decide +kernel
theorem dX10_goes_182 : decode cX10_goes 182 = .ok (.iload_n 1, 1) := by decide +kernel
theorem dX10_goes_183 : decode cX10_goes 183 = .ok (.invokevirtual 141, 3) := by decide +kernel
theorem dX10_goes_186 : decode cX10_goes 186 = .ok (.aload_n 0, 1) := by decide +kernel
theorem dX10_goes_187 : decode cX10_goes 187 = .ok (.getfield 123, 3) := by decide +kernel
theorem dX10_goes_190 : decode cX10_goes 190 = .ok (.ifCond .eq 13, 3) := by decide +kernel
theorem dX10_goes_193 : decode cX10_goes 193 = .ok (.iload 5, 2) := by decide +kernel
theorem dX10_goes_195 : decode cX10_goes 195 = .ok (.iload 9, 2) := by decide +kernel
theorem dX10_goes_197 : decode cX10_goes 197 = .ok (.iadd, 1) := by decide +kernel
theorem dX10_goes_198 : decode cX10_goes 198 = .ok (.iload 4, 2) := by decide +kernel
theorem dX10_goes_200 : decode cX10_goes 200 = .ok (.if_icmp .le 7, 3) := by decide +kernel
theorem dX10_goes_203 : decode cX10_goes 203 = .ok (.iconst 1, 1) := by decide +kernel
theorem dX10_goes_204 : decode cX10_goes 204 = .ok (.goto 4, 3) := by decide +kernel
theorem dX10_goes_207 : decode cX10_goes 207 = .ok (.iconst 0, 1) := by decide +kernel
theorem dX10_goes_208 : decode cX10_goes 208 = .ok (.istore 11, 2) := by decide +kernel
theorem dX10_goes_210 : decode cX10_goes 210 = .ok (.aload_n 0, 1) := by decide +kernel
theorem dX10_goes_211 : decode cX10_goes 211 = .ok (.dup, 1) := by decide +kernel
theorem dX10_goes_212 : decode cX10_goes 212 = .ok (.getfield 123, 3) := by decide +kernel
theorem dX10_goes_215 : decode cX10_goes 215 = .ok (.iload 11, 2) := by decide +kernel
theorem dX10_goes_217 : decode cX10_goes 217 = .ok (.ifCond .eq 7, 3) := by decide +kernel
theorem dX10_goes_220 : decode cX10_goes 220 = .ok (.iconst 1, 1) := by decide +kernel
theorem dX10_goes_221 : decode cX10_goes 221 = .ok (.goto 4, 3) := by decide +kernel
theorem dX10_goes_224 : decode cX10_goes 224 = .ok (.iconst 0, 1) := by decide +kernel
theorem dX10_goes_225 : decode cX10_goes 225 = .ok (.iadd, 1) := by decide +kernel
theorem dX10_goes_226 : decode cX10_goes 226 = .ok (.putfield 123, 3) := by decide +kernel
theorem dX10_goes_229 : decode cX10_goes 229 = .ok (.iload 11, 2) := by decide +kernel
theorem dX10_goes_231 : decode cX10_goes 231 = .ok (.ifCond .eq 8, 3) := by decide +kernel
theorem dX10_goes_234 : decode cX10_goes 234 = .ok (.iload 9, 2) := by decide +kernel
theorem dX10_goes_236 : decode cX10_goes 236 = .ok (.goto 8, 3) := by decide +kernel
theorem dX10_goes_239 : decode cX10_goes 239 = .ok (.iload 5, 2) := by decide +kernel
theorem dX10_goes_241 : decode cX10_goes 241 = .ok (.iload 9, 2) := by decide +kernel
theorem dX10_goes_243 : decode cX10_goes 243 = .ok (.iadd, 1) := by decide +kernel
theorem dX10_goes_244 : decode cX10_goes 244 = .ok (.istore 5, 2) := by decide +kernel
theorem dX10_goes_246 : decode cX10_goes 246 = .ok (.aload_n 0, 1) := by decide +kernel
theorem dX10_goes_247 : decode cX10_goes 247 = .ok (.aload_n 0, 1) := by decide +kernel
theorem dX10_goes_248 : decode cX10_goes 248 = .ok (.iload 8, 2) := by decide +kernel
theorem dX10_goes_250 : decode cX10_goes 250 = .ok (.iconst 0, 1) := by decide +kernel
theorem dX10_goes_251 : decode cX10_goes 251 = .ok (.invokevirtual 57, 3) := by decide +kernel
theorem dX10_goes_254 : decode cX10_goes 254 = .ok (.iload 9, 2) := by decide +kernel
theorem dX10_goes_256 : decode cX10_goes 256 = .ok (.invokevirtual 144, 3) := by decide +kernel
theorem dX10_goes_259 : decode cX10_goes 259 = .ok (.aload_n 0, 1) := by decide +kernel
theorem dX10_goes_260 : decode cX10_goes 260 = .ok (.dup, 1) := by decide +kernel
theorem dX10_goes_261 : decode cX10_goes 261 = .ok (.getfield 126, 3) := by decide +kernel
theorem dX10_goes_264 : decode cX10_goes 264 = .ok (.aload_n 0, 1) := by decide +kernel
theorem dX10_goes_265 : decode cX10_goes 265 = .ok (.iload 8, 2) := by decide +kernel
theorem dX10_goes_267 : decode cX10_goes 267 = .ok (.iconst 1, 1) := by decide +kernel
theorem dX10_goes_268 : decode cX10_goes 268 = .ok (.invokevirtual 57, 3) := by decide +kernel
theorem dX10_goes_271 : decode cX10_goes 271 = .ok (.iadd, 1) := by decide +kernel
theorem dX10_goes_272 : decode cX10_goes 272 = .ok (.putfield 126, 3) := by decide +kernel
theorem dX10_goes_275 : decode cX10_goes 275 = .ok (.aload_n 0, 1) := by decide +kernel
theorem dX10_goes_276 : decode cX10_goes 276 = .ok (.dup, 1) := by decide +kernel
theorem dX10_goes_277 : decode cX10_goes 277 = .ok (.getfield 129, 3) := by decide +kernel
theorem dX10_goes_280 : decode cX10_goes 280 = .ok (.aload_n 0, 1) := by decide +kernel
theorem dX10_goes_281 : decode cX10_goes 281 = .ok (.iload 8, 2) := by decide +kernel
theorem dX10_goes_283 : decode cX10_goes 283 = .ok (.iload_n 2, 1) := by decide +kernel
theorem dX10_goes_284 : decode cX10_goes 284 = .ok (.invokevirtual 112, 3) := by decide +kernel
theorem dX10_goes_287 : decode cX10_goes 287 = .ok (.ifCond .eq 7, 3) := by decide +kernel
theorem dX10_goes_290 : decode cX10_goes 290 = .ok (.iconst 1, 1) := by decide +kernel
theorem dX10_goes_291 : decode cX10_goes 291 = .ok (.goto 4, 3) := by decide +kernel
theorem dX10_goes_294 : decode cX10_goes 294 = .ok (.iconst 0, 1) := by decide +kernel
theorem dX10_goes_295 : decode cX10_goes 295 = .ok (.iadd, 1) := by decide +kernel
theorem dX10_goes_296 : decode cX10_goes 296 = .ok (.putfield 129, 3) := by decide +kernel
theorem dX10_goes_299 : decode cX10_goes 299 = .ok (.iload 6, 2) := by decide +kernel
theorem dX10_goes_301 : decode cX10_goes 301 = .ok (.iload_n 3, 1) := by decide +kernel
theorem dX10_goes_302 : decode cX10_goes 302 = .ok (.ifCond .eq 24, 3) := by decide +kernel
theorem dX10_goes_305 : decode cX10_goes 305 = .ok (.aload_n 0, 1) := by decide +kernel
theorem dX10_goes_306 : decode cX10_goes 306 = .ok (.iload_n 1, 1) := by decide +kernel
theorem dX10_goes_307 : decode cX10_goes 307 = .ok (.iload 8, 2) := by decide +kernel
theorem dX10_goes_309 : decode cX10_goes 309 = .ok (.iload_n 2, 1) := by decide +kernel
theorem dX10_goes_310 : decode cX10_goes 310 = .ok (.invokevirtual 147, 3) := by decide +kernel
theorem dX10_goes_313 : decode cX10_goes 313 = .ok (.ifCond .eq 13, 3) := by decide +kernel
theorem dX10_goes_316 : decode cX10_goes 316 = .ok (.aload_n 0, 1) := by decide +kernel
theorem dX10_goes_317 : decode cX10_goes 317 = .ok (.iload 8, 2) := by decide +kernel
theorem dX10_goes_319 : decode cX10_goes 319 = .ok (.iconst 1, 1) := by decide +kernel
theorem dX10_goes_320 : decode cX10_goes 320 = .ok (.invokevirtual 57, 3) := by decide +kernel
theorem dX10_goes_323 : decode cX10_goes 323 = .ok (.goto 4, 3) := by decide +kernel
theorem dX10_goes_326 : decode cX10_goes 326 = .ok (.iconst 0, 1) := by decide +kernel
theorem dX10_goes_327 : decode cX10_goes 327 = .ok (.iadd, 1) := by decide +kernel
theorem dX10_goes_328 : decode cX10_goes 328 = .ok (.istore 6, 2) := by decide +kernel
theorem dX10_goes_330 : decode cX10_goes 330 = .ok (.iinc 7 1, 3) := by decide +kernel
theorem dX10_goes_333 : decode cX10_goes 333 = .ok (.goto (-268), 3) := by decide +kernel
theorem dX10_goes_336 : decode cX10_goes 336 = .ok (.aload_n 0, 1) := by decide +kernel
theorem dX10_goes_337 : decode cX10_goes 337 = .ok (.iload_n 1, 1) := by decide +kernel
theorem dX10_goes_338 : decode cX10_goes 338 = .ok (.invokevirtual 141, 3) := by decide +kernel
theorem dX10_goes_341 : decode cX10_goes 341 = .ok (.iload 6, 2) := by decide +kernel
theorem dX10_goes_343 : decode cX10_goes 343 = .ok (.ireturn, 1) := by decide +kernel
theorem dX10_tips_0 : decode cX10_tips 0 = .ok (.aload_n 0, 1) := by decide +kernel
theorem dX10_tips_1 : decode cX10_tips 1 = .ok (.iload_n 1, 1) := by decide +kernel
theorem dX10_tips_2 : decode cX10_tips 2 = .ok (.iconst 3, 1) := by decide +kernel
theorem dX10_tips_3 : decode cX10_tips 3 = .ok (.invokevirtual 57, 3) := by decide +kernel
theorem dX10_tips_6 : decode cX10_tips 6 = .ok (.istore_n 2, 1) := by decide +kernel
theorem dX10_tips_7 : decode cX10_tips 7 = .ok (.aload_n 0, 1) := by decide +kernel
theorem dX10_tips_8 : decode cX10_tips 8 = .ok (.iload_n 1, 1) := by decide +kernel
theorem dX10_tips_9 : decode cX10_tips 9 = .ok (.bipush 12, 2) := by decide +kernel
theorem dX10_tips_11 : decode cX10_tips 11 = .ok (.invokevirtual 57, 3) := by decide +kernel
theorem dX10_tips_14 : decode cX10_tips 14 = .ok (.istore_n 3, 1) := by decide +kernel
theorem dX10_tips_15 : decode cX10_tips 15 = .ok (.iload_n 3, 1) := by decide +kernel
theorem dX10_tips_16 : decode cX10_tips 16 = .ok (.ifCond .ne 12, 3) := by decide +kernel
theorem dX10_tips_19 : decode cX10_tips 19 = .ok (.aload_n 0, 1) := by decide +kernel
theorem dX10_tips_20 : decode cX10_tips 20 = .ok (.iload_n 1, 1) := by decide +kernel
theorem dX10_tips_21 : decode cX10_tips 21 = .ok (.iconst 2, 1) := by decide +kernel
theorem dX10_tips_22 : decode cX10_tips 22 = .ok (.invokevirtual 57, 3) := by decide +kernel
theorem dX10_tips_25 : decode cX10_tips 25 = .ok (.goto 20, 3) := by decide +kernel
theorem dX10_tips_28 : decode cX10_tips 28 = .ok (.iload_n 3, 1) := by decide +kernel
theorem dX10_tips_29 : decode cX10_tips 29 = .ok (.iconst 1, 1) := by decide +kernel
theorem dX10_tips_30 : decode cX10_tips 30 = .ok (.if_icmp .ne 14, 3) := by decide +kernel
theorem dX10_tips_33 : decode cX10_tips 33 = .ok (.aload_n 0, 1) := by decide +kernel
theorem dX10_tips_34 : decode cX10_tips 34 = .ok (.iload_n 1, 1) := by decide +kernel
theorem dX10_tips_35 : decode cX10_tips 35 = .ok (.iconst 2, 1) := by decide +kernel
theorem dX10_tips_36 : decode cX10_tips 36 = .ok (.invokevirtual 57, 3) := by decide +kernel
theorem dX10_tips_39 : decode cX10_tips 39 = .ok (.iconst 2, 1) := by decide +kernel
theorem dX10_tips_40 : decode cX10_tips 40 = .ok (.idiv, 1) := by decide +kernel
theorem dX10_tips_41 : decode cX10_tips 41 = .ok (.goto 4, 3) := by decide +kernel
theorem dX10_tips_44 : decode cX10_tips 44 = .ok (.iconst 0, 1) := by decide +kernel
theorem dX10_tips_45 : decode cX10_tips 45 = .ok (.istore 4, 2) := by decide +kernel
theorem dX10_tips_47 : decode cX10_tips 47 = .ok (.iload_n 2, 1) := by decide +kernel
theorem dX10_tips_48 : decode cX10_tips 48 = .ok (.iconst (-1), 1) := by decide +kernel
theorem dX10_tips_49 : decode cX10_tips 49 = .ok (.if_icmp .eq 22, 3) := by decide +kernel
theorem dX10_tips_52 : decode cX10_tips 52 = .ok (.aload_n 0, 1) := by decide +kernel
theorem dX10_tips_53 : decode cX10_tips 53 = .ok (.iload_n 1, 1) := by decide +kernel
theorem dX10_tips_54 : decode cX10_tips 54 = .ok (.bipush 13, 2) := by decide +kernel
theorem dX10_tips_56 : decode cX10_tips 56 = .ok (.invokevirtual 57, 3) := by decide +kernel
theorem dX10_tips_59 : decode cX10_tips 59 = .ok (.iconst 1, 1) := by decide +kernel
theorem dX10_tips_60 : decode cX10_tips 60 = .ok (.if_icmp .ne 11, 3) := by decide +kernel
theorem dX10_tips_63 : decode cX10_tips 63 = .ok (.aload_n 0, 1) := by decide +kernel
theorem dX10_tips_64 : decode cX10_tips 64 = .ok (.iload_n 2, 1) := by decide +kernel
theorem dX10_tips_65 : decode cX10_tips 65 = .ok (.iconst 5, 1) := by decide +kernel
theorem dX10_tips_66 : decode cX10_tips 66 = .ok (.iload 4, 2) := by decide +kernel
theorem dX10_tips_68 : decode cX10_tips 68 = .ok (.invokevirtual 82, 3) := by decide +kernel
theorem dX10_tips_71 : decode cX10_tips 71 = .ok (.aload_n 0, 1) := by decide +kernel
theorem dX10_tips_72 : decode cX10_tips 72 = .ok (.iload_n 1, 1) := by decide +kernel
theorem dX10_tips_73 : decode cX10_tips 73 = .ok (.bipush 13, 2) := by decide +kernel
theorem dX10_tips_75 : decode cX10_tips 75 = .ok (.iconst 0, 1) := by decide +kernel
theorem dX10_tips_76 : decode cX10_tips 76 = .ok (.invokevirtual 71, 3) := by decide +kernel
theorem dX10_tips_79 : decode cX10_tips 79 = .ok (.aload_n 0, 1) := by decide +kernel
theorem dX10_tips_80 : decode cX10_tips 80 = .ok (.iload_n 1, 1) := by decide +kernel
theorem dX10_tips_81 : decode cX10_tips 81 = .ok (.bipush 12, 2) := by decide +kernel
theorem dX10_tips_83 : decode cX10_tips 83 = .ok (.iconst 0, 1) := by decide +kernel
theorem dX10_tips_84 : decode cX10_tips 84 = .ok (.invokevirtual 71, 3) := by decide +kernel
theorem dX10_tips_87 : decode cX10_tips 87 = .ok (.return_, 1) := by decide +kernel
theorem dX10_dayGoes_0 : decode cX10_dayGoes 0 = .ok (.aload_n 0, 1) := by decide +kernel
theorem dX10_dayGoes_1 : decode cX10_dayGoes 1 = .ok (.getfield 7, 3) := by decide +kernel
theorem dX10_dayGoes_4 : decode cX10_dayGoes 4 = .ok (.iconst 4, 1) := by decide +kernel
theorem dX10_dayGoes_5 : decode cX10_dayGoes 5 = .ok (.iaload, 1) := by decide +kernel
theorem dX10_dayGoes_6 : decode cX10_dayGoes 6 = .ok (.istore_n 1, 1) := by decide +kernel
theorem dX10_dayGoes_7 : decode cX10_dayGoes 7 = .ok (.iconst 0, 1) := by decide +kernel
theorem dX10_dayGoes_8 : decode cX10_dayGoes 8 = .ok (.istore_n 2, 1) := by decide +kernel
theorem dX10_dayGoes_9 : decode cX10_dayGoes 9 = .ok (.iload_n 2, 1) := by decide +kernel
theorem dX10_dayGoes_10 : decode cX10_dayGoes 10 = .ok (.aload_n 0, 1) := by decide +kernel
theorem dX10_dayGoes_11 : decode cX10_dayGoes 11 = .ok (.getfield 7, 3) := by decide +kernel
theorem dX10_dayGoes_14 : decode cX10_dayGoes 14 = .ok (.iconst 1, 1) := by decide +kernel
theorem dX10_dayGoes_15 : decode cX10_dayGoes 15 = .ok (.iaload, 1) := by decide +kernel
theorem dX10_dayGoes_16 : decode cX10_dayGoes 16 = .ok (.if_icmp .ge 50, 3) := by decide +kernel
theorem dX10_dayGoes_19 : decode cX10_dayGoes 19 = .ok (.aload_n 0, 1) := by decide +kernel
theorem dX10_dayGoes_20 : decode cX10_dayGoes 20 = .ok (.iload_n 2, 1) := by decide +kernel
theorem dX10_dayGoes_21 : decode cX10_dayGoes 21 = .ok (.iload_n 1, 1) := by decide +kernel
theorem dX10_dayGoes_22 : decode cX10_dayGoes 22 = .ok (.invokevirtual 138, 3) := by decide +kernel
theorem dX10_dayGoes_25 : decode cX10_dayGoes 25 = .ok (.ifCond .eq 13, 3) := by decide +kernel
theorem dX10_dayGoes_28 : decode cX10_dayGoes 28 = .ok (.aload_n 0, 1) := by decide +kernel
theorem dX10_dayGoes_29 : decode cX10_dayGoes 29 = .ok (.iload_n 2, 1) := by decide +kernel
theorem dX10_dayGoes_30 : decode cX10_dayGoes 30 = .ok (.bipush 7, 2) := by decide +kernel
theorem dX10_dayGoes_32 : decode cX10_dayGoes 32 = .ok (.invokevirtual 115, 3) := by decide +kernel
theorem dX10_dayGoes_35 : decode cX10_dayGoes 35 = .ok (.goto 25, 3) := by decide +kernel
theorem dX10_dayGoes_38 : decode cX10_dayGoes 38 = .ok (.aload_n 0, 1) := by decide +kernel
theorem dX10_dayGoes_39 : decode cX10_dayGoes 39 = .ok (.iload_n 2, 1) := by decide +kernel
theorem dX10_dayGoes_40 : decode cX10_dayGoes 40 = .ok (.iconst 3, 1) := by decide +kernel
theorem dX10_dayGoes_41 : decode cX10_dayGoes 41 = .ok (.invokevirtual 57, 3) := by decide +kernel
theorem dX10_dayGoes_44 : decode cX10_dayGoes 44 = .ok (.iconst (-1), 1) := by decide +kernel
theorem dX10_dayGoes_45 : decode cX10_dayGoes 45 = .ok (.if_icmp .ne 15, 3) := by decide +kernel
theorem dX10_dayGoes_48 : decode cX10_dayGoes 48 = .ok (.aload_n 0, 1) := by decide +kernel
theorem dX10_dayGoes_49 : decode cX10_dayGoes 49 = .ok (.iload_n 2, 1) := by decide +kernel
theorem dX10_dayGoes_50 : decode cX10_dayGoes 50 = .ok (.bipush 10, 2) := by decide +kernel
theorem dX10_dayGoes_52 : decode cX10_dayGoes 52 = .ok (.invokevirtual 115, 3) := by decide +kernel
theorem dX10_dayGoes_55 : decode cX10_dayGoes 55 = .ok (.aload_n 0, 1) := by decide +kernel
theorem dX10_dayGoes_56 : decode cX10_dayGoes 56 = .ok (.iload_n 2, 1) := by decide +kernel
theorem dX10_dayGoes_57 : decode cX10_dayGoes 57 = .ok (.invokevirtual 119, 3) := by decide +kernel
theorem dX10_dayGoes_60 : decode cX10_dayGoes 60 = .ok (.iinc 2 1, 3) := by decide +kernel
theorem dX10_dayGoes_63 : decode cX10_dayGoes 63 = .ok (.goto (-54), 3) := by decide +kernel
theorem dX10_dayGoes_66 : decode cX10_dayGoes 66 = .ok (.iconst 0, 1) := by decide +kernel
theorem dX10_dayGoes_67 : decode cX10_dayGoes 67 = .ok (.istore_n 2, 1) := by decide +kernel
theorem dX10_dayGoes_68 : decode cX10_dayGoes 68 = .ok (.iconst 0, 1) := by decide +kernel
theorem dX10_dayGoes_69 : decode cX10_dayGoes 69 = .ok (.istore_n 3, 1) := by decide +kernel
theorem dX10_dayGoes_70 : decode cX10_dayGoes 70 = .ok (.iload_n 3, 1) := by decide +kernel
theorem dX10_dayGoes_71 : decode cX10_dayGoes 71 = .ok (.aload_n 0, 1) := by decide +kernel
theorem dX10_dayGoes_72 : decode cX10_dayGoes 72 = .ok (.getfield 7, 3) := by decide +kernel
theorem dX10_dayGoes_75 : decode cX10_dayGoes 75 = .ok (.iconst 2, 1) := by decide +kernel
theorem dX10_dayGoes_76 : decode cX10_dayGoes 76 = .ok (.iaload, 1) := by decide +kernel
theorem dX10_dayGoes_77 : decode cX10_dayGoes 77 = .ok (.if_icmp .ge 39, 3) := by decide +kernel
theorem dX10_dayGoes_80 : decode cX10_dayGoes 80 = .ok (.iload_n 2, 1) := by decide +kernel
theorem dX10_dayGoes_81 : decode cX10_dayGoes 81 = .ok (.aload_n 0, 1) := by decide +kernel
theorem dX10_dayGoes_82 : decode cX10_dayGoes 82 = .ok (.iload_n 3, 1) := by decide +kernel
theorem dX10_dayGoes_83 : decode cX10_dayGoes 83 = .ok (.iload_n 1, 1) := by decide +kernel
theorem dX10_dayGoes_84 : decode cX10_dayGoes 84 = .ok (.iconst 1, 1) := by decide +kernel
theorem dX10_dayGoes_85 : decode cX10_dayGoes 85 = .ok (.invokevirtual 150, 3) := by decide +kernel
theorem dX10_dayGoes_88 : decode cX10_dayGoes 88 = .ok (.iadd, 1) := by decide +kernel
theorem dX10_dayGoes_89 : decode cX10_dayGoes 89 = .ok (.istore_n 2, 1) := by decide +kernel
theorem dX10_dayGoes_90 : decode cX10_dayGoes 90 = .ok (.aload_n 0, 1) := by decide +kernel
theorem dX10_dayGoes_91 : decode cX10_dayGoes 91 = .ok (.iload_n 3, 1) := by decide +kernel
theorem dX10_dayGoes_92 : decode cX10_dayGoes 92 = .ok (.iconst 3, 1) := by decide +kernel
theorem dX10_dayGoes_93 : decode cX10_dayGoes 93 = .ok (.aload_n 0, 1) := by decide +kernel
theorem dX10_dayGoes_94 : decode cX10_dayGoes 94 = .ok (.getfield 123, 3) := by decide +kernel
theorem dX10_dayGoes_97 : decode cX10_dayGoes 97 = .ok (.invokevirtual 82, 3) := by decide +kernel
theorem dX10_dayGoes_100 : decode cX10_dayGoes 100 = .ok (.aload_n 0, 1) := by decide +kernel
theorem dX10_dayGoes_101 : decode cX10_dayGoes 101 = .ok (.iload_n 3, 1) := by decide +kernel
theorem dX10_dayGoes_102 : decode cX10_dayGoes 102 = .ok (.iconst 4, 1) := by decide +kernel
theorem dX10_dayGoes_103 : decode cX10_dayGoes 103 = .ok (.aload_n 0, 1) := by decide +kernel
theorem dX10_dayGoes_104 : decode cX10_dayGoes 104 = .ok (.getfield 109, 3) := by decide +kernel
theorem dX10_dayGoes_107 : decode cX10_dayGoes 107 = .ok (.invokevirtual 82, 3) := by decide +kernel
theorem dX10_dayGoes_110 : decode cX10_dayGoes 110 = .ok (.iinc 3 1, 3) := by decide +kernel
theorem dX10_dayGoes_113 : decode cX10_dayGoes 113 = .ok (.goto (-43), 3) := by decide +kernel
theorem dX10_dayGoes_116 : decode cX10_dayGoes 116 = .ok (.iconst 0, 1) := by decide +kernel
theorem dX10_dayGoes_117 : decode cX10_dayGoes 117 = .ok (.istore_n 3, 1) := by decide +kernel
theorem dX10_dayGoes_118 : decode cX10_dayGoes 118 = .ok (.iload_n 3, 1) := by decide +kernel
theorem dX10_dayGoes_119 : decode cX10_dayGoes 119 = .ok (.aload_n 0, 1) := by decide +kernel
theorem dX10_dayGoes_120 : decode cX10_dayGoes 120 = .ok (.getfield 7, 3) := by decide +kernel
theorem dX10_dayGoes_123 : decode cX10_dayGoes 123 = .ok (.iconst 1, 1) := by decide +kernel
theorem dX10_dayGoes_124 : decode cX10_dayGoes 124 = .ok (.iaload, 1) := by decide +kernel
theorem dX10_dayGoes_125 : decode cX10_dayGoes 125 = .ok (.if_icmp .ge 23, 3) := by decide +kernel
theorem dX10_dayGoes_128 : decode cX10_dayGoes 128 = .ok (.iload_n 1, 1) := by decide +kernel
theorem dX10_dayGoes_129 : decode cX10_dayGoes 129 = .ok (.bipush 7, 2) := by decide +kernel
theorem dX10_dayGoes_131 : decode cX10_dayGoes 131 = .ok (.irem, 1) := by decide +kernel
theorem dX10_dayGoes_132 : decode cX10_dayGoes 132 = .ok (.bipush 6, 2) := by decide +kernel
theorem dX10_dayGoes_134 : decode cX10_dayGoes 134 = .ok (.if_icmp .ne 14, 3) := by decide +kernel
theorem dX10_dayGoes_137 : decode cX10_dayGoes 137 = .ok (.aload_n 0, 1) := by decide +kernel
theorem dX10_dayGoes_138 : decode cX10_dayGoes 138 = .ok (.iload_n 3, 1) := by decide +kernel
theorem dX10_dayGoes_139 : decode cX10_dayGoes 139 = .ok (.invokevirtual 154, 3) := by decide +kernel
theorem dX10_dayGoes_142 : decode cX10_dayGoes 142 = .ok (.iinc 3 1, 3) := by decide +kernel
theorem dX10_dayGoes_145 : decode cX10_dayGoes 145 = .ok (.goto (-27), 3) := by decide +kernel
theorem dX10_dayGoes_148 : decode cX10_dayGoes 148 = .ok (.aload_n 0, 1) := by decide +kernel
theorem dX10_dayGoes_149 : decode cX10_dayGoes 149 = .ok (.getfield 7, 3) := by decide +kernel
theorem dX10_dayGoes_152 : decode cX10_dayGoes 152 = .ok (.iconst 4, 1) := by decide +kernel
theorem dX10_dayGoes_153 : decode cX10_dayGoes 153 = .ok (.dup2, 1) := by decide +kernel
theorem dX10_dayGoes_154 : decode cX10_dayGoes 154 = .ok (.iaload, 1) := by decide +kernel
theorem dX10_dayGoes_155 : decode cX10_dayGoes 155 = .ok (.iconst 1, 1) := by decide +kernel
theorem dX10_dayGoes_156 : decode cX10_dayGoes 156 = .ok (.iadd, 1) := by decide +kernel
theorem dX10_dayGoes_157 : decode cX10_dayGoes 157 = .ok (.iastore, 1) := by decide +kernel
theorem dX10_dayGoes_158 : decode cX10_dayGoes 158 = .ok (.iload_n 2, 1) := by decide +kernel
theorem dX10_dayGoes_159 : decode cX10_dayGoes 159 = .ok (.ireturn, 1) := by decide +kernel
theorem dX10_daysGo_0 : decode cX10_daysGo 0 = .ok (.iload_n 1, 1) := by decide +kernel
theorem dX10_daysGo_1 : decode cX10_daysGo 1 = .ok (.iconst 1, 1) := by decide +kernel
theorem dX10_daysGo_2 : decode cX10_daysGo 2 = .ok (.bipush 31, 2) := by decide +kernel
theorem dX10_daysGo_4 : decode cX10_daysGo 4 = .ok (.invokestatic 45, 3) := by decide +kernel
theorem dX10_daysGo_7 : decode cX10_daysGo 7 = .ok (.ifCond .ne 5, 3) := by decide +kernel
theorem dX10_daysGo_10 : decode cX10_daysGo 10 = .ok (.iconst (-1), 1) := by decide +kernel
theorem dX10_daysGo_11 : decode cX10_daysGo 11 = .ok (.ireturn, 1) := by decide +kernel
theorem dX10_daysGo_12 : decode cX10_daysGo 12 = .ok (.aload_n 0, 1) := by decide +kernel
theorem dX10_daysGo_13 : decode cX10_daysGo 13 = .ok (.getfield 7, 3) := by decide +kernel
theorem dX10_daysGo_16 : decode cX10_daysGo 16 = .ok (.iconst 4, 1) := by decide +kernel
theorem dX10_daysGo_17 : decode cX10_daysGo 17 = .ok (.iaload, 1) := by decide +kernel
theorem dX10_daysGo_18 : decode cX10_daysGo 18 = .ok (.iload_n 1, 1) := by decide +kernel
theorem dX10_daysGo_19 : decode cX10_daysGo 19 = .ok (.iadd, 1) := by decide +kernel
theorem dX10_daysGo_20 : decode cX10_daysGo 20 = .ok (.sipush 1000, 3) := by decide +kernel
theorem dX10_daysGo_23 : decode cX10_daysGo 23 = .ok (.if_icmp .le 6, 3) := by decide +kernel
theorem dX10_daysGo_26 : decode cX10_daysGo 26 = .ok (.bipush (-3), 2) := by decide +kernel
theorem dX10_daysGo_28 : decode cX10_daysGo 28 = .ok (.ireturn, 1) := by decide +kernel
theorem dX10_daysGo_29 : decode cX10_daysGo 29 = .ok (.iconst 0, 1) := by decide +kernel
theorem dX10_daysGo_30 : decode cX10_daysGo 30 = .ok (.istore_n 2, 1) := by decide +kernel
theorem dX10_daysGo_31 : decode cX10_daysGo 31 = .ok (.iconst 0, 1) := by decide +kernel
theorem dX10_daysGo_32 : decode cX10_daysGo 32 = .ok (.istore_n 3, 1) := by decide +kernel
theorem dX10_daysGo_33 : decode cX10_daysGo 33 = .ok (.iload_n 3, 1) := by decide +kernel
theorem dX10_daysGo_34 : decode cX10_daysGo 34 = .ok (.iload_n 1, 1) := by decide +kernel
theorem dX10_daysGo_35 : decode cX10_daysGo 35 = .ok (.if_icmp .ge 16, 3) := by decide +kernel
theorem dX10_daysGo_38 : decode cX10_daysGo 38 = .ok (.iload_n 2, 1) := by decide +kernel
theorem dX10_daysGo_39 : decode cX10_daysGo 39 = .ok (.aload_n 0, 1) := by decide +kernel
theorem dX10_daysGo_40 : decode cX10_daysGo 40 = .ok (.invokevirtual 157, 3) := by decide +kernel
theorem dX10_daysGo_43 : decode cX10_daysGo 43 = .ok (.iadd, 1) := by decide +kernel
theorem dX10_daysGo_44 : decode cX10_daysGo 44 = .ok (.istore_n 2, 1) := by decide +kernel
theorem dX10_daysGo_45 : decode cX10_daysGo 45 = .ok (.iinc 3 1, 3) := by decide +kernel
theorem dX10_daysGo_48 : decode cX10_daysGo 48 = .ok (.goto (-15), 3) := by decide +kernel
theorem dX10_daysGo_51 : decode cX10_daysGo 51 = .ok (.iload_n 2, 1) := by decide +kernel
theorem dX10_daysGo_52 : decode cX10_daysGo 52 = .ok (.ireturn, 1) := by decide +kernel
theorem dX10_days_0 : decode cX10_days 0 = .ok (.aload_n 0, 1) := by decide +kernel
theorem dX10_days_1 : decode cX10_days 1 = .ok (.invokevirtual 64, 3) := by decide +kernel
theorem dX10_days_4 : decode cX10_days 4 = .ok (.aload_n 0, 1) := by decide +kernel
theorem dX10_days_5 : decode cX10_days 5 = .ok (.aload_n 0, 1) := by decide +kernel
theorem dX10_days_6 : decode cX10_days 6 = .ok (.iload_n 1, 1) := by decide +kernel
theorem dX10_days_7 : decode cX10_days 7 = .ok (.invokevirtual 161, 3) := by decide +kernel
theorem dX10_days_10 : decode cX10_days 10 = .ok (.invokevirtual 67, 3) := by decide +kernel
theorem dX10_days_13 : decode cX10_days 13 = .ok (.ireturn, 1) := by decide +kernel
theorem dX10_housesBeyond_0 : decode cX10_housesBeyond 0 = .ok (.iconst 0, 1) := by decide +kernel
theorem dX10_housesBeyond_1 : decode cX10_housesBeyond 1 = .ok (.istore_n 2, 1) := by decide +kernel
theorem dX10_housesBeyond_2 : decode cX10_housesBeyond 2 = .ok (.iconst 0, 1) := by decide +kernel
theorem dX10_housesBeyond_3 : decode cX10_housesBeyond 3 = .ok (.istore_n 3, 1) := by decide +kernel
theorem dX10_housesBeyond_4 : decode cX10_housesBeyond 4 = .ok (.iload_n 3, 1) := by decide +kernel
theorem dX10_housesBeyond_5 : decode cX10_housesBeyond 5 = .ok (.aload_n 0, 1) := by decide +kernel
theorem dX10_housesBeyond_6 : decode cX10_housesBeyond 6 = .ok (.getfield 7, 3) := by decide +kernel
theorem dX10_housesBeyond_9 : decode cX10_housesBeyond 9 = .ok (.iconst 1, 1) := by decide +kernel
theorem dX10_housesBeyond_10 : decode cX10_housesBeyond 10 = .ok (.iaload, 1) := by decide +kernel
theorem dX10_housesBeyond_11 : decode cX10_housesBeyond 11 = .ok (.if_icmp .ge 31, 3) := by decide +kernel
theorem dX10_housesBeyond_14 : decode cX10_housesBeyond 14 = .ok (.iload_n 2, 1) := by decide +kernel
theorem dX10_housesBeyond_15 : decode cX10_housesBeyond 15 = .ok (.aload_n 0, 1) := by decide +kernel
theorem dX10_housesBeyond_16 : decode cX10_housesBeyond 16 = .ok (.aload_n 0, 1) := by decide +kernel
theorem dX10_housesBeyond_17 : decode cX10_housesBeyond 17 = .ok (.iload_n 3, 1) := by decide +kernel
theorem dX10_housesBeyond_18 : decode cX10_housesBeyond 18 = .ok (.iconst 0, 1) := by decide +kernel
theorem dX10_housesBeyond_19 : decode cX10_housesBeyond 19 = .ok (.invokevirtual 57, 3) := by decide +kernel
theorem dX10_housesBeyond_22 : decode cX10_housesBeyond 22 = .ok (.iload_n 1, 1) := by decide +kernel
theorem dX10_housesBeyond_23 : decode cX10_housesBeyond 23 = .ok (.invokevirtual 53, 3) := by decide +kernel
theorem dX10_housesBeyond_26 : decode cX10_housesBeyond 26 = .ok (.ifCond .eq 7, 3) := by decide +kernel
theorem dX10_housesBeyond_29 : decode cX10_housesBeyond 29 = .ok (.iconst 1, 1) := by decide +kernel
theorem dX10_housesBeyond_30 : decode cX10_housesBeyond 30 = .ok (.goto 4, 3) := by decide +kernel
theorem dX10_housesBeyond_33 : decode cX10_housesBeyond 33 = .ok (.iconst 0, 1) := by decide +kernel
theorem dX10_housesBeyond_34 : decode cX10_housesBeyond 34 = .ok (.iadd, 1) := by decide +kernel
theorem dX10_housesBeyond_35 : decode cX10_housesBeyond 35 = .ok (.istore_n 2, 1) := by decide +kernel
theorem dX10_housesBeyond_36 : decode cX10_housesBeyond 36 = .ok (.iinc 3 1, 3) := by decide +kernel
theorem dX10_housesBeyond_39 : decode cX10_housesBeyond 39 = .ok (.goto (-35), 3) := by decide +kernel
theorem dX10_housesBeyond_42 : decode cX10_housesBeyond 42 = .ok (.iload_n 2, 1) := by decide +kernel
theorem dX10_housesBeyond_43 : decode cX10_housesBeyond 43 = .ok (.ireturn, 1) := by decide +kernel
theorem dX10_cornerOf_0 : decode cX10_cornerOf 0 = .ok (.aload_n 0, 1) := by decide +kernel
theorem dX10_cornerOf_1 : decode cX10_cornerOf 1 = .ok (.iload_n 1, 1) := by decide +kernel
theorem dX10_cornerOf_2 : decode cX10_cornerOf 2 = .ok (.invokevirtual 60, 3) := by decide +kernel
theorem dX10_cornerOf_5 : decode cX10_cornerOf 5 = .ok (.ifCond .eq 13, 3) := by decide +kernel
theorem dX10_cornerOf_8 : decode cX10_cornerOf 8 = .ok (.iload_n 2, 1) := by decide +kernel
theorem dX10_cornerOf_9 : decode cX10_cornerOf 9 = .ok (.iconst 0, 1) := by decide +kernel
theorem dX10_cornerOf_10 : decode cX10_cornerOf 10 = .ok (.bipush 6, 2) := by decide +kernel
theorem dX10_cornerOf_12 : decode cX10_cornerOf 12 = .ok (.invokestatic 45, 3) := by decide +kernel
theorem dX10_cornerOf_15 : decode cX10_cornerOf 15 = .ok (.ifCond .ne 5, 3) := by decide +kernel
theorem dX10_cornerOf_18 : decode cX10_cornerOf 18 = .ok (.iconst (-1), 1) := by decide +kernel
theorem dX10_cornerOf_19 : decode cX10_cornerOf 19 = .ok (.ireturn, 1) := by decide +kernel
theorem dX10_cornerOf_20 : decode cX10_cornerOf 20 = .ok (.iload_n 1, 1) := by decide +kernel
theorem dX10_cornerOf_21 : decode cX10_cornerOf 21 = .ok (.ifCond .ne 16, 3) := by decide +kernel
theorem dX10_cornerOf_24 : decode cX10_cornerOf 24 = .ok (.iload_n 2, 1) := by decide +kernel
theorem dX10_cornerOf_25 : decode cX10_cornerOf 25 = .ok (.iconst 2, 1) := by decide +kernel
theorem dX10_cornerOf_26 : decode cX10_cornerOf 26 = .ok (.if_icmp .lt 8, 3) := by decide +kernel
theorem dX10_cornerOf_29 : decode cX10_cornerOf 29 = .ok (.iload_n 2, 1) := by decide +kernel
theorem dX10_cornerOf_30 : decode cX10_cornerOf 30 = .ok (.iconst 3, 1) := by decide +kernel
theorem dX10_cornerOf_31 : decode cX10_cornerOf 31 = .ok (.if_icmp .ne 6, 3) := by decide +kernel
theorem dX10_cornerOf_34 : decode cX10_cornerOf 34 = .ok (.bipush (-4), 2) := by decide +kernel
theorem dX10_cornerOf_36 : decode cX10_cornerOf 36 = .ok (.ireturn, 1) := by decide +kernel
theorem dX10_cornerOf_37 : decode cX10_cornerOf 37 = .ok (.iload_n 2, 1) := by decide +kernel
theorem dX10_cornerOf_38 : decode cX10_cornerOf 38 = .ok (.iconst 4, 1) := by decide +kernel
theorem dX10_cornerOf_39 : decode cX10_cornerOf 39 = .ok (.if_icmp .ge 12, 3) := by decide +kernel
theorem dX10_cornerOf_42 : decode cX10_cornerOf 42 = .ok (.aload_n 0, 1) := by decide +kernel
theorem dX10_cornerOf_43 : decode cX10_cornerOf 43 = .ok (.iload_n 1, 1) := by decide +kernel
theorem dX10_cornerOf_44 : decode cX10_cornerOf 44 = .ok (.iload_n 2, 1) := by decide +kernel
theorem dX10_cornerOf_45 : decode cX10_cornerOf 45 = .ok (.invokevirtual 49, 3) := by decide +kernel
theorem dX10_cornerOf_48 : decode cX10_cornerOf 48 = .ok (.goto 42, 3) := by decide +kernel
theorem dX10_cornerOf_51 : decode cX10_cornerOf 51 = .ok (.iload_n 2, 1) := by decide +kernel
theorem dX10_cornerOf_52 : decode cX10_cornerOf 52 = .ok (.iconst 4, 1) := by decide +kernel
theorem dX10_cornerOf_53 : decode cX10_cornerOf 53 = .ok (.if_icmp .ne 11, 3) := by decide +kernel
theorem dX10_cornerOf_56 : decode cX10_cornerOf 56 = .ok (.aload_n 0, 1) := by decide +kernel
theorem dX10_cornerOf_57 : decode cX10_cornerOf 57 = .ok (.iload_n 1, 1) := by decide +kernel
theorem dX10_cornerOf_58 : decode cX10_cornerOf 58 = .ok (.invokevirtual 164, 3) := by decide +kernel
theorem dX10_cornerOf_61 : decode cX10_cornerOf 61 = .ok (.goto 29, 3) := by decide +kernel
theorem dX10_cornerOf_64 : decode cX10_cornerOf 64 = .ok (.iload_n 2, 1) := by decide +kernel
theorem dX10_cornerOf_65 : decode cX10_cornerOf 65 = .ok (.iconst 5, 1) := by decide +kernel
theorem dX10_cornerOf_66 : decode cX10_cornerOf 66 = .ok (.if_icmp .ne 11, 3) := by decide +kernel
theorem dX10_cornerOf_69 : decode cX10_cornerOf 69 = .ok (.aload_n 0, 1) := by decide +kernel
theorem dX10_cornerOf_70 : decode cX10_cornerOf 70 = .ok (.iload_n 1, 1) := by decide +kernel
theorem dX10_cornerOf_71 : decode cX10_cornerOf 71 = .ok (.invokevirtual 167, 3) := by decide +kernel
theorem dX10_cornerOf_74 : decode cX10_cornerOf 74 = .ok (.goto 16, 3) := by decide +kernel
theorem dX10_cornerOf_77 : decode cX10_cornerOf 77 = .ok (.aload_n 0, 1) := by decide +kernel
theorem dX10_cornerOf_78 : decode cX10_cornerOf 78 = .ok (.iload_n 1, 1) := by decide +kernel
theorem dX10_cornerOf_79 : decode cX10_cornerOf 79 = .ok (.invokevirtual 88, 3) := by decide +kernel
theorem dX10_cornerOf_82 : decode cX10_cornerOf 82 = .ok (.ifCond .eq 7, 3) := by decide +kernel
theorem dX10_cornerOf_85 : decode cX10_cornerOf 85 = .ok (.iconst 1, 1) := by decide +kernel
theorem dX10_cornerOf_86 : decode cX10_cornerOf 86 = .ok (.goto 4, 3) := by decide +kernel
theorem dX10_cornerOf_89 : decode cX10_cornerOf 89 = .ok (.iconst 0, 1) := by decide +kernel
theorem dX10_cornerOf_90 : decode cX10_cornerOf 90 = .ok (.ireturn, 1) := by decide +kernel
theorem dX10_houseOf_0 : decode cX10_houseOf 0 = .ok (.aload_n 0, 1) := by decide +kernel
theorem dX10_houseOf_1 : decode cX10_houseOf 1 = .ok (.iload_n 1, 1) := by decide +kernel
theorem dX10_houseOf_2 : decode cX10_houseOf 2 = .ok (.invokevirtual 75, 3) := by decide +kernel
theorem dX10_houseOf_5 : decode cX10_houseOf 5 = .ok (.ifCond .eq 13, 3) := by decide +kernel
theorem dX10_houseOf_8 : decode cX10_houseOf 8 = .ok (.iload_n 2, 1) := by decide +kernel
theorem dX10_houseOf_9 : decode cX10_houseOf 9 = .ok (.iconst 0, 1) := by decide +kernel
theorem dX10_houseOf_10 : decode cX10_houseOf 10 = .ok (.bipush 11, 2) := by decide +kernel
theorem dX10_houseOf_12 : decode cX10_houseOf 12 = .ok (.invokestatic 45, 3) := by decide +kernel
theorem dX10_houseOf_15 : decode cX10_houseOf 15 = .ok (.ifCond .ne 5, 3) := by decide +kernel
theorem dX10_houseOf_18 : decode cX10_houseOf 18 = .ok (.iconst (-1), 1) := by decide +kernel
theorem dX10_houseOf_19 : decode cX10_houseOf 19 = .ok (.ireturn, 1) := by decide +kernel
theorem dX10_houseOf_20 : decode cX10_houseOf 20 = .ok (.iload_n 2, 1) := by decide +kernel
theorem dX10_houseOf_21 : decode cX10_houseOf 21 = .ok (.tableswitch 146 3 11 #[51, 73, 94, 114, 114, 121, 137, 137, 137], 51) := by decide +kernel
theorem dX10_houseOf_72 : decode cX10_houseOf 72 = .ok (.aload_n 0, 1) := by decide +kernel
theorem dX10_houseOf_73 : decode cX10_houseOf 73 = .ok (.iload_n 1, 1) := by decide +kernel
theorem dX10_houseOf_74 : decode cX10_houseOf 74 = .ok (.iconst 3, 1) := by decide +kernel
theorem dX10_houseOf_75 : decode cX10_houseOf 75 = .ok (.invokevirtual 57, 3) := by decide +kernel
theorem dX10_houseOf_78 : decode cX10_houseOf 78 = .ok (.iconst (-1), 1) := by decide +kernel
theorem dX10_houseOf_79 : decode cX10_houseOf 79 = .ok (.if_icmp .ne 8, 3) := by decide +kernel
theorem dX10_houseOf_82 : decode cX10_houseOf 82 = .ok (.bipush (-4), 2) := by decide +kernel
theorem dX10_houseOf_84 : decode cX10_houseOf 84 = .ok (.goto 9, 3) := by decide +kernel
theorem dX10_houseOf_87 : decode cX10_houseOf 87 = .ok (.aload_n 0, 1) := by decide +kernel
theorem dX10_houseOf_88 : decode cX10_houseOf 88 = .ok (.iload_n 1, 1) := by decide +kernel
theorem dX10_houseOf_89 : decode cX10_houseOf 89 = .ok (.iconst 3, 1) := by decide +kernel
theorem dX10_houseOf_90 : decode cX10_houseOf 90 = .ok (.invokevirtual 57, 3) := by decide +kernel
theorem dX10_houseOf_93 : decode cX10_houseOf 93 = .ok (.ireturn, 1) := by decide +kernel
theorem dX10_houseOf_94 : decode cX10_houseOf 94 = .ok (.aload_n 0, 1) := by decide +kernel
theorem dX10_houseOf_95 : decode cX10_houseOf 95 = .ok (.iload_n 1, 1) := by decide +kernel
theorem dX10_houseOf_96 : decode cX10_houseOf 96 = .ok (.iconst 4, 1) := by decide +kernel
theorem dX10_houseOf_97 : decode cX10_houseOf 97 = .ok (.invokevirtual 57, 3) := by decide +kernel
theorem dX10_houseOf_100 : decode cX10_houseOf 100 = .ok (.ifCond .ne 8, 3) := by decide +kernel
theorem dX10_houseOf_103 : decode cX10_houseOf 103 = .ok (.bipush (-4), 2) := by decide +kernel
theorem dX10_houseOf_105 : decode cX10_houseOf 105 = .ok (.goto 9, 3) := by decide +kernel
theorem dX10_houseOf_108 : decode cX10_houseOf 108 = .ok (.aload_n 0, 1) := by decide +kernel
theorem dX10_houseOf_109 : decode cX10_houseOf 109 = .ok (.iload_n 1, 1) := by decide +kernel
theorem dX10_houseOf_110 : decode cX10_houseOf 110 = .ok (.iconst 4, 1) := by decide +kernel
theorem dX10_houseOf_111 : decode cX10_houseOf 111 = .ok (.invokevirtual 57, 3) := by decide +kernel
theorem dX10_houseOf_114 : decode cX10_houseOf 114 = .ok (.ireturn, 1) := by decide +kernel
theorem dX10_houseOf_115 : decode cX10_houseOf 115 = .ok (.aload_n 0, 1) := by decide +kernel
theorem dX10_houseOf_116 : decode cX10_houseOf 116 = .ok (.iload_n 1, 1) := by decide +kernel
theorem dX10_houseOf_117 : decode cX10_houseOf 117 = .ok (.aload_n 0, 1) := by decide +kernel
theorem dX10_houseOf_118 : decode cX10_houseOf 118 = .ok (.getfield 7, 3) := by decide +kernel
theorem dX10_houseOf_121 : decode cX10_houseOf 121 = .ok (.iconst 4, 1) := by decide +kernel
theorem dX10_houseOf_122 : decode cX10_houseOf 122 = .ok (.iaload, 1) := by decide +kernel
theorem dX10_houseOf_123 : decode cX10_houseOf 123 = .ok (.invokevirtual 138, 3) := by decide +kernel
theorem dX10_houseOf_126 : decode cX10_houseOf 126 = .ok (.ifCond .eq 7, 3) := by decide +kernel
theorem dX10_houseOf_129 : decode cX10_houseOf 129 = .ok (.iconst 1, 1) := by decide +kernel
theorem dX10_houseOf_130 : decode cX10_houseOf 130 = .ok (.goto 4, 3) := by decide +kernel
theorem dX10_houseOf_133 : decode cX10_houseOf 133 = .ok (.iconst 0, 1) := by decide +kernel
theorem dX10_houseOf_134 : decode cX10_houseOf 134 = .ok (.ireturn, 1) := by decide +kernel
theorem dX10_houseOf_135 : decode cX10_houseOf 135 = .ok (.aload_n 0, 1) := by decide +kernel
theorem dX10_houseOf_136 : decode cX10_houseOf 136 = .ok (.iload_n 1, 1) := by decide +kernel
theorem dX10_houseOf_137 : decode cX10_houseOf 137 = .ok (.iload_n 2, 1) := by decide +kernel
theorem dX10_houseOf_138 : decode cX10_houseOf 138 = .ok (.invokevirtual 57, 3) := by decide +kernel
theorem dX10_houseOf_141 : decode cX10_houseOf 141 = .ok (.ireturn, 1) := by decide +kernel
theorem dX10_houseOf_142 : decode cX10_houseOf 142 = .ok (.aload_n 0, 1) := by decide +kernel
theorem dX10_houseOf_143 : decode cX10_houseOf 143 = .ok (.iload_n 1, 1) := by decide +kernel
theorem dX10_houseOf_144 : decode cX10_houseOf 144 = .ok (.bipush 8, 2) := by decide +kernel
theorem dX10_houseOf_146 : decode cX10_houseOf 146 = .ok (.invokevirtual 57, 3) := by decide +kernel
theorem dX10_houseOf_149 : decode cX10_houseOf 149 = .ok (.aload_n 0, 1) := by decide +kernel
theorem dX10_houseOf_150 : decode cX10_houseOf 150 = .ok (.iload_n 1, 1) := by decide +kernel
theorem dX10_houseOf_151 : decode cX10_houseOf 151 = .ok (.bipush 9, 2) := by decide +kernel
theorem dX10_houseOf_153 : decode cX10_houseOf 153 = .ok (.invokevirtual 57, 3) := by decide +kernel
theorem dX10_houseOf_156 : decode cX10_houseOf 156 = .ok (.iadd, 1) := by decide +kernel
theorem dX10_houseOf_157 : decode cX10_houseOf 157 = .ok (.ireturn, 1) := by decide +kernel
theorem dX10_houseOf_158 : decode cX10_houseOf 158 = .ok (.aload_n 0, 1) := by decide +kernel
theorem dX10_houseOf_159 : decode cX10_houseOf 159 = .ok (.iload_n 1, 1) := by decide +kernel
theorem dX10_houseOf_160 : decode cX10_houseOf 160 = .ok (.iload_n 2, 1) := by decide +kernel
theorem dX10_houseOf_161 : decode cX10_houseOf 161 = .ok (.iconst 1, 1) := by decide +kernel
theorem dX10_houseOf_162 : decode cX10_houseOf 162 = .ok (.iadd, 1) := by decide +kernel
theorem dX10_houseOf_163 : decode cX10_houseOf 163 = .ok (.invokevirtual 57, 3) := by decide +kernel
theorem dX10_houseOf_166 : decode cX10_houseOf 166 = .ok (.ireturn, 1) := by decide +kernel
theorem dX10_houseOf_167 : decode cX10_houseOf 167 = .ok (.aload_n 0, 1) := by decide +kernel
theorem dX10_houseOf_168 : decode cX10_houseOf 168 = .ok (.iload_n 1, 1) := by decide +kernel
theorem dX10_houseOf_169 : decode cX10_houseOf 169 = .ok (.iload_n 2, 1) := by decide +kernel
theorem dX10_houseOf_170 : decode cX10_houseOf 170 = .ok (.invokevirtual 57, 3) := by decide +kernel
theorem dX10_houseOf_173 : decode cX10_houseOf 173 = .ok (.ireturn, 1) := by decide +kernel
theorem dX10_dueOf_0 : decode cX10_dueOf 0 = .ok (.aload_n 0, 1) := by decide +kernel
theorem dX10_dueOf_1 : decode cX10_dueOf 1 = .ok (.iload_n 1, 1) := by decide +kernel
theorem dX10_dueOf_2 : decode cX10_dueOf 2 = .ok (.bipush 6, 2) := by decide +kernel
theorem dX10_dueOf_4 : decode cX10_dueOf 4 = .ok (.invokevirtual 57, 3) := by decide +kernel
theorem dX10_dueOf_7 : decode cX10_dueOf 7 = .ok (.aload_n 0, 1) := by decide +kernel
theorem dX10_dueOf_8 : decode cX10_dueOf 8 = .ok (.iload_n 1, 1) := by decide +kernel
theorem dX10_dueOf_9 : decode cX10_dueOf 9 = .ok (.bipush 8, 2) := by decide +kernel
theorem dX10_dueOf_11 : decode cX10_dueOf 11 = .ok (.invokevirtual 57, 3) := by decide +kernel
theorem dX10_dueOf_14 : decode cX10_dueOf 14 = .ok (.iadd, 1) := by decide +kernel
theorem dX10_dueOf_15 : decode cX10_dueOf 15 = .ok (.aload_n 0, 1) := by decide +kernel
theorem dX10_dueOf_16 : decode cX10_dueOf 16 = .ok (.iload_n 1, 1) := by decide +kernel
theorem dX10_dueOf_17 : decode cX10_dueOf 17 = .ok (.bipush 9, 2) := by decide +kernel
theorem dX10_dueOf_19 : decode cX10_dueOf 19 = .ok (.invokevirtual 57, 3) := by decide +kernel
theorem dX10_dueOf_22 : decode cX10_dueOf 22 = .ok (.iadd, 1) := by decide +kernel
theorem dX10_dueOf_23 : decode cX10_dueOf 23 = .ok (.aload_n 0, 1) := by decide +kernel
theorem dX10_dueOf_24 : decode cX10_dueOf 24 = .ok (.iload_n 1, 1) := by decide +kernel
theorem dX10_dueOf_25 : decode cX10_dueOf 25 = .ok (.bipush 10, 2) := by decide +kernel
theorem dX10_dueOf_27 : decode cX10_dueOf 27 = .ok (.invokevirtual 57, 3) := by decide +kernel
theorem dX10_dueOf_30 : decode cX10_dueOf 30 = .ok (.iadd, 1) := by decide +kernel
theorem dX10_dueOf_31 : decode cX10_dueOf 31 = .ok (.ireturn, 1) := by decide +kernel
theorem dX10_shareOf_0 : decode cX10_shareOf 0 = .ok (.aload_n 0, 1) := by decide +kernel
theorem dX10_shareOf_1 : decode cX10_shareOf 1 = .ok (.iload_n 1, 1) := by decide +kernel
theorem dX10_shareOf_2 : decode cX10_shareOf 2 = .ok (.bipush 6, 2) := by decide +kernel
theorem dX10_shareOf_4 : decode cX10_shareOf 4 = .ok (.invokevirtual 57, 3) := by decide +kernel
theorem dX10_shareOf_7 : decode cX10_shareOf 7 = .ok (.i2f, 1) := by decide +kernel
theorem dX10_shareOf_8 : decode cX10_shareOf 8 = .ok (.aload_n 0, 1) := by decide +kernel
theorem dX10_shareOf_9 : decode cX10_shareOf 9 = .ok (.iload_n 1, 1) := by decide +kernel
theorem dX10_shareOf_10 : decode cX10_shareOf 10 = .ok (.invokevirtual 170, 3) := by decide +kernel
theorem dX10_shareOf_13 : decode cX10_shareOf 13 = .ok (.i2f, 1) := by decide +kernel
theorem dX10_shareOf_14 : decode cX10_shareOf 14 = .ok (.fdiv, 1) := by decide +kernel
theorem dX10_shareOf_15 : decode cX10_shareOf 15 = .ok (.freturn, 1) := by decide +kernel
theorem dX10_bitsOf_0 : decode cX10_bitsOf 0 = .ok (.fload_n 0, 1) := by decide +kernel
theorem dX10_bitsOf_1 : decode cX10_bitsOf 1 = .ok (.fconst 0, 1) := by decide +kernel
theorem dX10_bitsOf_2 : decode cX10_bitsOf 2 = .ok (.fcmp .l, 1) := by decide +kernel
theorem dX10_bitsOf_3 : decode cX10_bitsOf 3 = .ok (.ifCond .ne 5, 3) := by decide +kernel
theorem dX10_bitsOf_6 : decode cX10_bitsOf 6 = .ok (.iconst 0, 1) := by decide +kernel
theorem dX10_bitsOf_7 : decode cX10_bitsOf 7 = .ok (.ireturn, 1) := by decide +kernel
theorem dX10_bitsOf_8 : decode cX10_bitsOf 8 = .ok (.fload_n 0, 1) := by decide +kernel
theorem dX10_bitsOf_9 : decode cX10_bitsOf 9 = .ok (.fstore_n 1, 1) := by decide +kernel
theorem dX10_bitsOf_10 : decode cX10_bitsOf 10 = .ok (.bipush 127, 2) := by decide +kernel
theorem dX10_bitsOf_12 : decode cX10_bitsOf 12 = .ok (.istore_n 2, 1) := by decide +kernel
theorem dX10_bitsOf_13 : decode cX10_bitsOf 13 = .ok (.fload_n 1, 1) := by decide +kernel
theorem dX10_bitsOf_14 : decode cX10_bitsOf 14 = .ok (.fconst 1, 1) := by decide +kernel
theorem dX10_bitsOf_15 : decode cX10_bitsOf 15 = .ok (.fcmp .g, 1) := by decide +kernel
theorem dX10_bitsOf_16 : decode cX10_bitsOf 16 = .ok (.ifCond .ge 13, 3) := by decide +kernel
theorem dX10_bitsOf_19 : decode cX10_bitsOf 19 = .ok (.fload_n 1, 1) := by decide +kernel
theorem dX10_bitsOf_20 : decode cX10_bitsOf 20 = .ok (.fconst 2, 1) := by decide +kernel
theorem dX10_bitsOf_21 : decode cX10_bitsOf 21 = .ok (.fmul, 1) := by decide +kernel
theorem dX10_bitsOf_22 : decode cX10_bitsOf 22 = .ok (.fstore_n 1, 1) := by decide +kernel
theorem dX10_bitsOf_23 : decode cX10_bitsOf 23 = .ok (.iinc 2 (-1), 3) := by decide +kernel
theorem dX10_bitsOf_26 : decode cX10_bitsOf 26 = .ok (.goto (-13), 3) := by decide +kernel
theorem dX10_bitsOf_29 : decode cX10_bitsOf 29 = .ok (.iload_n 2, 1) := by decide +kernel
theorem dX10_bitsOf_30 : decode cX10_bitsOf 30 = .ok (.bipush 23, 2) := by decide +kernel
theorem dX10_bitsOf_32 : decode cX10_bitsOf 32 = .ok (.ishl, 1) := by decide +kernel
theorem dX10_bitsOf_33 : decode cX10_bitsOf 33 = .ok (.fload_n 1, 1) := by decide +kernel
theorem dX10_bitsOf_34 : decode cX10_bitsOf 34 = .ok (.fconst 1, 1) := by decide +kernel
theorem dX10_bitsOf_35 : decode cX10_bitsOf 35 = .ok (.fsub, 1) := by decide +kernel
theorem dX10_bitsOf_36 : decode cX10_bitsOf 36 = .ok (.ldc 173, 2) := by decide +kernel
theorem dX10_bitsOf_38 : decode cX10_bitsOf 38 = .ok (.fmul, 1) := by decide +kernel
theorem dX10_bitsOf_39 : decode cX10_bitsOf 39 = .ok (.f2i, 1) := by decide +kernel
theorem dX10_bitsOf_40 : decode cX10_bitsOf 40 = .ok (.iadd, 1) := by decide +kernel
theorem dX10_bitsOf_41 : decode cX10_bitsOf 41 = .ok (.ireturn, 1) := by decide +kernel
theorem dX10_shareBits_0 : decode cX10_shareBits 0 = .ok (.aload_n 0, 1) := by decide +kernel
theorem dX10_shareBits_1 : decode cX10_shareBits 1 = .ok (.iload_n 1, 1) := by decide +kernel
theorem dX10_shareBits_2 : decode cX10_shareBits 2 = .ok (.invokevirtual 75, 3) := by decide +kernel
theorem dX10_shareBits_5 : decode cX10_shareBits 5 = .ok (.ifCond .ne 7, 3) := by decide +kernel
theorem dX10_shareBits_8 : decode cX10_shareBits 8 = .ok (.iconst (-1), 1) := by decide +kernel
theorem dX10_shareBits_9 : decode cX10_shareBits 9 = .ok (.goto 24, 3) := by decide +kernel
theorem dX10_shareBits_12 : decode cX10_shareBits 12 = .ok (.aload_n 0, 1) := by decide +kernel
theorem dX10_shareBits_13 : decode cX10_shareBits 13 = .ok (.iload_n 1, 1) := by decide +kernel
theorem dX10_shareBits_14 : decode cX10_shareBits 14 = .ok (.invokevirtual 170, 3) := by decide +kernel
theorem dX10_shareBits_17 : decode cX10_shareBits 17 = .ok (.ifCond .ne 8, 3) := by decide +kernel
theorem dX10_shareBits_20 : decode cX10_shareBits 20 = .ok (.bipush (-4), 2) := by decide +kernel
theorem dX10_shareBits_22 : decode cX10_shareBits 22 = .ok (.goto 11, 3) := by decide +kernel
theorem dX10_shareBits_25 : decode cX10_shareBits 25 = .ok (.aload_n 0, 1) := by decide +kernel
theorem dX10_shareBits_26 : decode cX10_shareBits 26 = .ok (.iload_n 1, 1) := by decide +kernel
theorem dX10_shareBits_27 : decode cX10_shareBits 27 = .ok (.invokevirtual 174, 3) := by decide +kernel
theorem dX10_shareBits_30 : decode cX10_shareBits 30 = .ok (.invokestatic 178, 3) := by decide +kernel
theorem dX10_shareBits_33 : decode cX10_shareBits 33 = .ok (.ireturn, 1) := by decide +kernel
theorem dX10_meanBits_0 : decode cX10_meanBits 0 = .ok (.dconst 0, 1) := by decide +kernel
theorem dX10_meanBits_1 : decode cX10_meanBits 1 = .ok (.dstore_n 1, 1) := by decide +kernel
theorem dX10_meanBits_2 : decode cX10_meanBits 2 = .ok (.iconst 0, 1) := by decide +kernel
theorem dX10_meanBits_3 : decode cX10_meanBits 3 = .ok (.istore_n 3, 1) := by decide +kernel
theorem dX10_meanBits_4 : decode cX10_meanBits 4 = .ok (.iconst 0, 1) := by decide +kernel
theorem dX10_meanBits_5 : decode cX10_meanBits 5 = .ok (.istore 4, 2) := by decide +kernel
theorem dX10_meanBits_7 : decode cX10_meanBits 7 = .ok (.iload 4, 2) := by decide +kernel
theorem dX10_meanBits_9 : decode cX10_meanBits 9 = .ok (.aload_n 0, 1) := by decide +kernel
theorem dX10_meanBits_10 : decode cX10_meanBits 10 = .ok (.getfield 7, 3) := by decide +kernel
theorem dX10_meanBits_13 : decode cX10_meanBits 13 = .ok (.iconst 1, 1) := by decide +kernel
theorem dX10_meanBits_14 : decode cX10_meanBits 14 = .ok (.iaload, 1) := by decide +kernel
theorem dX10_meanBits_15 : decode cX10_meanBits 15 = .ok (.if_icmp .ge 31, 3) := by decide +kernel
theorem dX10_meanBits_18 : decode cX10_meanBits 18 = .ok (.aload_n 0, 1) := by decide +kernel
theorem dX10_meanBits_19 : decode cX10_meanBits 19 = .ok (.iload 4, 2) := by decide +kernel
theorem dX10_meanBits_21 : decode cX10_meanBits 21 = .ok (.invokevirtual 170, 3) := by decide +kernel
theorem dX10_meanBits_24 : decode cX10_meanBits 24 = .ok (.ifCond .le 16, 3) := by decide +kernel
theorem dX10_meanBits_27 : decode cX10_meanBits 27 = .ok (.dload_n 1, 1) := by decide +kernel
theorem dX10_meanBits_28 : decode cX10_meanBits 28 = .ok (.aload_n 0, 1) := by decide +kernel
theorem dX10_meanBits_29 : decode cX10_meanBits 29 = .ok (.iload 4, 2) := by decide +kernel
theorem dX10_meanBits_31 : decode cX10_meanBits 31 = .ok (.invokevirtual 174, 3) := by decide +kernel
theorem dX10_meanBits_34 : decode cX10_meanBits 34 = .ok (.f2d, 1) := by decide +kernel
theorem dX10_meanBits_35 : decode cX10_meanBits 35 = .ok (.dadd, 1) := by decide +kernel
theorem dX10_meanBits_36 : decode cX10_meanBits 36 = .ok (.dstore_n 1, 1) := by decide +kernel
theorem dX10_meanBits_37 : decode cX10_meanBits 37 = .ok (.iinc 3 1, 3) := by decide +kernel
theorem dX10_meanBits_40 : decode cX10_meanBits 40 = .ok (.iinc 4 1, 3) := by decide +kernel
theorem dX10_meanBits_43 : decode cX10_meanBits 43 = .ok (.goto (-36), 3) := by decide +kernel
theorem dX10_meanBits_46 : decode cX10_meanBits 46 = .ok (.iload_n 3, 1) := by decide +kernel
theorem dX10_meanBits_47 : decode cX10_meanBits 47 = .ok (.ifCond .ne 8, 3) := by decide +kernel
theorem dX10_meanBits_50 : decode cX10_meanBits 50 = .ok (.bipush (-4), 2) := by decide +kernel
theorem dX10_meanBits_52 : decode cX10_meanBits 52 = .ok (.goto 11, 3) := by decide +kernel
theorem dX10_meanBits_55 : decode cX10_meanBits 55 = .ok (.dload_n 1, 1) := by decide +kernel
theorem dX10_meanBits_56 : decode cX10_meanBits 56 = .ok (.iload_n 3, 1) := by decide +kernel
theorem dX10_meanBits_57 : decode cX10_meanBits 57 = .ok (.i2d, 1) := by decide +kernel
theorem dX10_meanBits_58 : decode cX10_meanBits 58 = .ok (.ddiv, 1) := by decide +kernel
theorem dX10_meanBits_59 : decode cX10_meanBits 59 = .ok (.d2f, 1) := by decide +kernel
theorem dX10_meanBits_60 : decode cX10_meanBits 60 = .ok (.invokestatic 178, 3) := by decide +kernel
theorem dX10_meanBits_63 : decode cX10_meanBits 63 = .ok (.ireturn, 1) := by decide +kernel
theorem dX10_carrierOf_0 : decode cX10_carrierOf 0 = .ok (.aload_n 0, 1) := by decide +kernel
theorem dX10_carrierOf_1 : decode cX10_carrierOf 1 = .ok (.iload_n 1, 1) := by decide +kernel
theorem dX10_carrierOf_2 : decode cX10_carrierOf 2 = .ok (.invokevirtual 91, 3) := by decide +kernel
theorem dX10_carrierOf_5 : decode cX10_carrierOf 5 = .ok (.ifCond .eq 13, 3) := by decide +kernel
theorem dX10_carrierOf_8 : decode cX10_carrierOf 8 = .ok (.iload_n 2, 1) := by decide +kernel
theorem dX10_carrierOf_9 : decode cX10_carrierOf 9 = .ok (.iconst 0, 1) := by decide +kernel
theorem dX10_carrierOf_10 : decode cX10_carrierOf 10 = .ok (.bipush 7, 2) := by decide +kernel
theorem dX10_carrierOf_12 : decode cX10_carrierOf 12 = .ok (.invokestatic 45, 3) := by decide +kernel
theorem dX10_carrierOf_15 : decode cX10_carrierOf 15 = .ok (.ifCond .ne 5, 3) := by decide +kernel
theorem dX10_carrierOf_18 : decode cX10_carrierOf 18 = .ok (.iconst (-1), 1) := by decide +kernel
theorem dX10_carrierOf_19 : decode cX10_carrierOf 19 = .ok (.ireturn, 1) := by decide +kernel
theorem dX10_carrierOf_20 : decode cX10_carrierOf 20 = .ok (.iload_n 2, 1) := by decide +kernel
theorem dX10_carrierOf_21 : decode cX10_carrierOf 21 = .ok (.iconst 3, 1) := by decide +kernel
theorem dX10_carrierOf_22 : decode cX10_carrierOf 22 = .ok (.if_icmp .ne 11, 3) := by decide +kernel
theorem dX10_carrierOf_25 : decode cX10_carrierOf 25 = .ok (.aload_n 0, 1) := by decide +kernel
theorem dX10_carrierOf_26 : decode cX10_carrierOf 26 = .ok (.iload_n 1, 1) := by decide +kernel
theorem dX10_carrierOf_27 : decode cX10_carrierOf 27 = .ok (.invokevirtual 97, 3) := by decide +kernel
theorem dX10_carrierOf_30 : decode cX10_carrierOf 30 = .ok (.goto 20, 3) := by decide +kernel
theorem dX10_carrierOf_33 : decode cX10_carrierOf 33 = .ok (.aload_n 0, 1) := by decide +kernel
theorem dX10_carrierOf_34 : decode cX10_carrierOf 34 = .ok (.iload_n 1, 1) := by decide +kernel
theorem dX10_carrierOf_35 : decode cX10_carrierOf 35 = .ok (.iload_n 2, 1) := by decide +kernel
theorem dX10_carrierOf_36 : decode cX10_carrierOf 36 = .ok (.iconst 3, 1) := by decide +kernel
theorem dX10_carrierOf_37 : decode cX10_carrierOf 37 = .ok (.if_icmp .ge 7, 3) := by decide +kernel
theorem dX10_carrierOf_40 : decode cX10_carrierOf 40 = .ok (.iload_n 2, 1) := by decide +kernel
theorem dX10_carrierOf_41 : decode cX10_carrierOf 41 = .ok (.goto 6, 3) := by decide +kernel
theorem dX10_carrierOf_44 : decode cX10_carrierOf 44 = .ok (.iload_n 2, 1) := by decide +kernel
theorem dX10_carrierOf_45 : decode cX10_carrierOf 45 = .ok (.iconst 1, 1) := by decide +kernel
theorem dX10_carrierOf_46 : decode cX10_carrierOf 46 = .ok (.isub, 1) := by decide +kernel
theorem dX10_carrierOf_47 : decode cX10_carrierOf 47 = .ok (.invokevirtual 85, 3) := by decide +kernel
theorem dX10_carrierOf_50 : decode cX10_carrierOf 50 = .ok (.ireturn, 1) := by decide +kernel
theorem dX10_pauseOf_0 : decode cX10_pauseOf 0 = .ok (.iload_n 1, 1) := by decide +kernel
theorem dX10_pauseOf_1 : decode cX10_pauseOf 1 = .ok (.iconst 0, 1) := by decide +kernel
theorem dX10_pauseOf_2 : decode cX10_pauseOf 2 = .ok (.aload_n 0, 1) := by decide +kernel
theorem dX10_pauseOf_3 : decode cX10_pauseOf 3 = .ok (.getfield 7, 3) := by decide +kernel
theorem dX10_pauseOf_6 : decode cX10_pauseOf 6 = .ok (.iconst 3, 1) := by decide +kernel
theorem dX10_pauseOf_7 : decode cX10_pauseOf 7 = .ok (.iaload, 1) := by decide +kernel
theorem dX10_pauseOf_8 : decode cX10_pauseOf 8 = .ok (.iconst 1, 1) := by decide +kernel
theorem dX10_pauseOf_9 : decode cX10_pauseOf 9 = .ok (.isub, 1) := by decide +kernel
theorem dX10_pauseOf_10 : decode cX10_pauseOf 10 = .ok (.invokestatic 45, 3) := by decide +kernel
theorem dX10_pauseOf_13 : decode cX10_pauseOf 13 = .ok (.ifCond .eq 12, 3) := by decide +kernel
theorem dX10_pauseOf_16 : decode cX10_pauseOf 16 = .ok (.iload_n 2, 1) := by decide +kernel
theorem dX10_pauseOf_17 : decode cX10_pauseOf 17 = .ok (.iconst 0, 1) := by decide +kernel
theorem dX10_pauseOf_18 : decode cX10_pauseOf 18 = .ok (.iconst 2, 1) := by decide +kernel
theorem dX10_pauseOf_19 : decode cX10_pauseOf 19 = .ok (.invokestatic 45, 3) := by decide +kernel
theorem dX10_pauseOf_22 : decode cX10_pauseOf 22 = .ok (.ifCond .ne 7, 3) := by decide +kernel
theorem dX10_pauseOf_25 : decode cX10_pauseOf 25 = .ok (.iconst (-1), 1) := by decide +kernel
theorem dX10_pauseOf_26 : decode cX10_pauseOf 26 = .ok (.goto 17, 3) := by decide +kernel
theorem dX10_pauseOf_29 : decode cX10_pauseOf 29 = .ok (.aload_n 0, 1) := by decide +kernel
theorem dX10_pauseOf_30 : decode cX10_pauseOf 30 = .ok (.getfield 7, 3) := by decide +kernel
theorem dX10_pauseOf_33 : decode cX10_pauseOf 33 = .ok (.sipush 447, 3) := by decide +kernel
theorem dX10_pauseOf_36 : decode cX10_pauseOf 36 = .ok (.iconst 3, 1) := by decide +kernel
theorem dX10_pauseOf_37 : decode cX10_pauseOf 37 = .ok (.iload_n 1, 1) := by decide +kernel
theorem dX10_pauseOf_38 : decode cX10_pauseOf 38 = .ok (.imul, 1) := by decide +kernel
theorem dX10_pauseOf_39 : decode cX10_pauseOf 39 = .ok (.iadd, 1) := by decide +kernel
theorem dX10_pauseOf_40 : decode cX10_pauseOf 40 = .ok (.iload_n 2, 1) := by decide +kernel
theorem dX10_pauseOf_41 : decode cX10_pauseOf 41 = .ok (.iadd, 1) := by decide +kernel
theorem dX10_pauseOf_42 : decode cX10_pauseOf 42 = .ok (.iaload, 1) := by decide +kernel
theorem dX10_pauseOf_43 : decode cX10_pauseOf 43 = .ok (.ireturn, 1) := by decide +kernel
theorem dX10_roundAt_0 : decode cX10_roundAt 0 = .ok (.aload_n 0, 1) := by decide +kernel
theorem dX10_roundAt_1 : decode cX10_roundAt 1 = .ok (.iload_n 1, 1) := by decide +kernel
theorem dX10_roundAt_2 : decode cX10_roundAt 2 = .ok (.invokevirtual 91, 3) := by decide +kernel
theorem dX10_roundAt_5 : decode cX10_roundAt 5 = .ok (.ifCond .eq 7, 3) := by decide +kernel
theorem dX10_roundAt_8 : decode cX10_roundAt 8 = .ok (.iload_n 2, 1) := by decide +kernel
theorem dX10_roundAt_9 : decode cX10_roundAt 9 = .ok (.ifCond .ge 5, 3) := by decide +kernel
theorem dX10_roundAt_12 : decode cX10_roundAt 12 = .ok (.iconst (-1), 1) := by decide +kernel
theorem dX10_roundAt_13 : decode cX10_roundAt 13 = .ok (.ireturn, 1) := by decide +kernel
theorem dX10_roundAt_14 : decode cX10_roundAt 14 = .ok (.aload_n 0, 1) := by decide +kernel
theorem dX10_roundAt_15 : decode cX10_roundAt 15 = .ok (.invokevirtual 132, 3) := by decide +kernel
theorem dX10_roundAt_18 : decode cX10_roundAt 18 = .ok (.iload_n 2, 1) := by decide +kernel
theorem dX10_roundAt_19 : decode cX10_roundAt 19 = .ok (.istore_n 3, 1) := by decide +kernel
theorem dX10_roundAt_20 : decode cX10_roundAt 20 = .ok (.iconst 0, 1) := by decide +kernel
theorem dX10_roundAt_21 : decode cX10_roundAt 21 = .ok (.istore 4, 2) := by decide +kernel
theorem dX10_roundAt_23 : decode cX10_roundAt 23 = .ok (.iload 4, 2) := by decide +kernel
theorem dX10_roundAt_25 : decode cX10_roundAt 25 = .ok (.aload_n 0, 1) := by decide +kernel
theorem dX10_roundAt_26 : decode cX10_roundAt 26 = .ok (.getfield 7, 3) := by decide +kernel
theorem dX10_roundAt_29 : decode cX10_roundAt 29 = .ok (.iconst 1, 1) := by decide +kernel
theorem dX10_roundAt_30 : decode cX10_roundAt 30 = .ok (.iaload, 1) := by decide +kernel
theorem dX10_roundAt_31 : decode cX10_roundAt 31 = .ok (.if_icmp .ge 40, 3) := by decide +kernel
theorem dX10_roundAt_34 : decode cX10_roundAt 34 = .ok (.aload_n 0, 1) := by decide +kernel
theorem dX10_roundAt_35 : decode cX10_roundAt 35 = .ok (.aload_n 0, 1) := by decide +kernel
theorem dX10_roundAt_36 : decode cX10_roundAt 36 = .ok (.getfield 28, 3) := by decide +kernel
theorem dX10_roundAt_39 : decode cX10_roundAt 39 = .ok (.iload 4, 2) := by decide +kernel
theorem dX10_roundAt_41 : decode cX10_roundAt 41 = .ok (.iaload, 1) := by decide +kernel
theorem dX10_roundAt_42 : decode cX10_roundAt 42 = .ok (.iconst 3, 1) := by decide +kernel
theorem dX10_roundAt_43 : decode cX10_roundAt 43 = .ok (.invokevirtual 57, 3) := by decide +kernel
theorem dX10_roundAt_46 : decode cX10_roundAt 46 = .ok (.iload_n 1, 1) := by decide +kernel
theorem dX10_roundAt_47 : decode cX10_roundAt 47 = .ok (.if_icmp .ne 18, 3) := by decide +kernel
theorem dX10_roundAt_50 : decode cX10_roundAt 50 = .ok (.iload_n 3, 1) := by decide +kernel
theorem dX10_roundAt_51 : decode cX10_roundAt 51 = .ok (.ifCond .ne 11, 3) := by decide +kernel
theorem dX10_roundAt_54 : decode cX10_roundAt 54 = .ok (.aload_n 0, 1) := by decide +kernel
theorem dX10_roundAt_55 : decode cX10_roundAt 55 = .ok (.getfield 28, 3) := by decide +kernel
theorem dX10_roundAt_58 : decode cX10_roundAt 58 = .ok (.iload 4, 2) := by decide +kernel
theorem dX10_roundAt_60 : decode cX10_roundAt 60 = .ok (.iaload, 1) := by decide +kernel
theorem dX10_roundAt_61 : decode cX10_roundAt 61 = .ok (.ireturn, 1) := by decide +kernel
theorem dX10_roundAt_62 : decode cX10_roundAt 62 = .ok (.iinc 3 (-1), 3) := by decide +kernel
theorem dX10_roundAt_65 : decode cX10_roundAt 65 = .ok (.iinc 4 1, 3) := by decide +kernel
theorem dX10_roundAt_68 : decode cX10_roundAt 68 = .ok (.goto (-45), 3) := by decide +kernel
theorem dX10_roundAt_71 : decode cX10_roundAt 71 = .ok (.bipush (-4), 2) := by decide +kernel
theorem dX10_roundAt_73 : decode cX10_roundAt 73 = .ok (.ireturn, 1) := by decide +kernel
theorem dX10_round_0 : decode cX10_round 0 = .ok (.aload_n 0, 1) := by decide +kernel
theorem dX10_round_1 : decode cX10_round 1 = .ok (.iload_n 1, 1) := by decide +kernel
theorem dX10_round_2 : decode cX10_round 2 = .ok (.invokevirtual 91, 3) := by decide +kernel
theorem dX10_round_5 : decode cX10_round 5 = .ok (.ifCond .eq 28, 3) := by decide +kernel
theorem dX10_round_8 : decode cX10_round 8 = .ok (.iload_n 2, 1) := by decide +kernel
theorem dX10_round_9 : decode cX10_round 9 = .ok (.aload_n 0, 1) := by decide +kernel
theorem dX10_round_10 : decode cX10_round 10 = .ok (.getfield 7, 3) := by decide +kernel
theorem dX10_round_13 : decode cX10_round 13 = .ok (.iconst 4, 1) := by decide +kernel
theorem dX10_round_14 : decode cX10_round 14 = .ok (.iaload, 1) := by decide +kernel
theorem dX10_round_15 : decode cX10_round 15 = .ok (.sipush 999, 3) := by decide +kernel
theorem dX10_round_18 : decode cX10_round 18 = .ok (.invokestatic 45, 3) := by decide +kernel
theorem dX10_round_21 : decode cX10_round 21 = .ok (.ifCond .eq 12, 3) := by decide +kernel
theorem dX10_round_24 : decode cX10_round 24 = .ok (.iload_n 3, 1) := by decide +kernel
theorem dX10_round_25 : decode cX10_round 25 = .ok (.iconst 0, 1) := by decide +kernel
theorem dX10_round_26 : decode cX10_round 26 = .ok (.iconst 3, 1) := by decide +kernel
theorem dX10_round_27 : decode cX10_round 27 = .ok (.invokestatic 45, 3) := by decide +kernel
theorem dX10_round_30 : decode cX10_round 30 = .ok (.ifCond .ne 5, 3) := by decide +kernel
theorem dX10_round_33 : decode cX10_round 33 = .ok (.iconst (-1), 1) := by decide +kernel
theorem dX10_round_34 : decode cX10_round 34 = .ok (.ireturn, 1) := by decide +kernel
theorem dX10_round_35 : decode cX10_round 35 = .ok (.aload_n 0, 1) := by decide +kernel
theorem dX10_round_36 : decode cX10_round 36 = .ok (.iload_n 1, 1) := by decide +kernel
theorem dX10_round_37 : decode cX10_round 37 = .ok (.iload_n 2, 1) := by decide +kernel
theorem dX10_round_38 : decode cX10_round 38 = .ok (.iconst 0, 1) := by decide +kernel
theorem dX10_round_39 : decode cX10_round 39 = .ok (.invokevirtual 150, 3) := by decide +kernel
theorem dX10_round_42 : decode cX10_round 42 = .ok (.istore 4, 2) := by decide +kernel
theorem dX10_round_44 : decode cX10_round 44 = .ok (.iload_n 3, 1) := by decide +kernel
theorem dX10_round_45 : decode cX10_round 45 = .ok (.ifCond .ne 10, 3) := by decide +kernel
theorem dX10_round_48 : decode cX10_round 48 = .ok (.aload_n 0, 1) := by decide +kernel
theorem dX10_round_49 : decode cX10_round 49 = .ok (.getfield 123, 3) := by decide +kernel
theorem dX10_round_52 : decode cX10_round 52 = .ok (.goto 31, 3) := by decide +kernel
theorem dX10_round_55 : decode cX10_round 55 = .ok (.iload_n 3, 1) := by decide +kernel
theorem dX10_round_56 : decode cX10_round 56 = .ok (.iconst 1, 1) := by decide +kernel
theorem dX10_round_57 : decode cX10_round 57 = .ok (.if_icmp .ne 10, 3) := by decide +kernel
theorem dX10_round_60 : decode cX10_round 60 = .ok (.aload_n 0, 1) := by decide +kernel
theorem dX10_round_61 : decode cX10_round 61 = .ok (.getfield 109, 3) := by decide +kernel
theorem dX10_round_64 : decode cX10_round 64 = .ok (.goto 19, 3) := by decide +kernel
theorem dX10_round_67 : decode cX10_round 67 = .ok (.iload_n 3, 1) := by decide +kernel
theorem dX10_round_68 : decode cX10_round 68 = .ok (.iconst 2, 1) := by decide +kernel
theorem dX10_round_69 : decode cX10_round 69 = .ok (.if_icmp .ne 10, 3) := by decide +kernel
theorem dX10_round_72 : decode cX10_round 72 = .ok (.aload_n 0, 1) := by decide +kernel
theorem dX10_round_73 : decode cX10_round 73 = .ok (.getfield 126, 3) := by decide +kernel
theorem dX10_round_76 : decode cX10_round 76 = .ok (.goto 7, 3) := by decide +kernel
theorem dX10_round_79 : decode cX10_round 79 = .ok (.aload_n 0, 1) := by decide +kernel
theorem dX10_round_80 : decode cX10_round 80 = .ok (.getfield 129, 3) := by decide +kernel
theorem dX10_round_83 : decode cX10_round 83 = .ok (.ireturn, 1) := by decide +kernel
theorem dX10_moreBy_0 : decode cX10_moreBy 0 = .ok (.aload_n 0, 1) := by decide +kernel
theorem dX10_moreBy_1 : decode cX10_moreBy 1 = .ok (.iload_n 1, 1) := by decide +kernel
theorem dX10_moreBy_2 : decode cX10_moreBy 2 = .ok (.iload_n 3, 1) := by decide +kernel
theorem dX10_moreBy_3 : decode cX10_moreBy 3 = .ok (.iconst 0, 1) := by decide +kernel
theorem dX10_moreBy_4 : decode cX10_moreBy 4 = .ok (.invokevirtual 150, 3) := by decide +kernel
theorem dX10_moreBy_7 : decode cX10_moreBy 7 = .ok (.istore 4, 2) := by decide +kernel
theorem dX10_moreBy_9 : decode cX10_moreBy 9 = .ok (.aload_n 0, 1) := by decide +kernel
theorem dX10_moreBy_10 : decode cX10_moreBy 10 = .ok (.getfield 109, 3) := by decide +kernel
theorem dX10_moreBy_13 : decode cX10_moreBy 13 = .ok (.istore 5, 2) := by decide +kernel
theorem dX10_moreBy_15 : decode cX10_moreBy 15 = .ok (.aload_n 0, 1) := by decide +kernel
theorem dX10_moreBy_16 : decode cX10_moreBy 16 = .ok (.iload_n 2, 1) := by decide +kernel
theorem dX10_moreBy_17 : decode cX10_moreBy 17 = .ok (.iconst 3, 1) := by decide +kernel
theorem dX10_moreBy_18 : decode cX10_moreBy 18 = .ok (.invokevirtual 57, 3) := by decide +kernel
theorem dX10_moreBy_21 : decode cX10_moreBy 21 = .ok (.istore 6, 2) := by decide +kernel
theorem dX10_moreBy_23 : decode cX10_moreBy 23 = .ok (.aload_n 0, 1) := by decide +kernel
theorem dX10_moreBy_24 : decode cX10_moreBy 24 = .ok (.iload_n 2, 1) := by decide +kernel
theorem dX10_moreBy_25 : decode cX10_moreBy 25 = .ok (.iconst 3, 1) := by decide +kernel
theorem dX10_moreBy_26 : decode cX10_moreBy 26 = .ok (.iload_n 1, 1) := by decide +kernel
theorem dX10_moreBy_27 : decode cX10_moreBy 27 = .ok (.invokevirtual 71, 3) := by decide +kernel
theorem dX10_moreBy_30 : decode cX10_moreBy 30 = .ok (.aload_n 0, 1) := by decide +kernel
theorem dX10_moreBy_31 : decode cX10_moreBy 31 = .ok (.iload_n 1, 1) := by decide +kernel
theorem dX10_moreBy_32 : decode cX10_moreBy 32 = .ok (.iload_n 3, 1) := by decide +kernel
theorem dX10_moreBy_33 : decode cX10_moreBy 33 = .ok (.iconst 0, 1) := by decide +kernel
theorem dX10_moreBy_34 : decode cX10_moreBy 34 = .ok (.invokevirtual 150, 3) := by decide +kernel
theorem dX10_moreBy_37 : decode cX10_moreBy 37 = .ok (.istore 4, 2) := by decide +kernel
theorem dX10_moreBy_39 : decode cX10_moreBy 39 = .ok (.aload_n 0, 1) := by decide +kernel
theorem dX10_moreBy_40 : decode cX10_moreBy 40 = .ok (.iload_n 2, 1) := by decide +kernel
theorem dX10_moreBy_41 : decode cX10_moreBy 41 = .ok (.iconst 3, 1) := by decide +kernel
theorem dX10_moreBy_42 : decode cX10_moreBy 42 = .ok (.iload 6, 2) := by decide +kernel
theorem dX10_moreBy_44 : decode cX10_moreBy 44 = .ok (.invokevirtual 71, 3) := by decide +kernel
theorem dX10_moreBy_47 : decode cX10_moreBy 47 = .ok (.aload_n 0, 1) := by decide +kernel
theorem dX10_moreBy_48 : decode cX10_moreBy 48 = .ok (.getfield 109, 3) := by decide +kernel
theorem dX10_moreBy_51 : decode cX10_moreBy 51 = .ok (.iload 5, 2) := by decide +kernel
theorem dX10_moreBy_53 : decode cX10_moreBy 53 = .ok (.isub, 1) := by decide +kernel
theorem dX10_moreBy_54 : decode cX10_moreBy 54 = .ok (.ireturn, 1) := by decide +kernel
theorem dX10_lightest_0 : decode cX10_lightest 0 = .ok (.aload_n 0, 1) := by decide +kernel
theorem dX10_lightest_1 : decode cX10_lightest 1 = .ok (.iload_n 1, 1) := by decide +kernel
theorem dX10_lightest_2 : decode cX10_lightest 2 = .ok (.invokevirtual 75, 3) := by decide +kernel
theorem dX10_lightest_5 : decode cX10_lightest 5 = .ok (.ifCond .eq 19, 3) := by decide +kernel
theorem dX10_lightest_8 : decode cX10_lightest 8 = .ok (.iload_n 2, 1) := by decide +kernel
theorem dX10_lightest_9 : decode cX10_lightest 9 = .ok (.aload_n 0, 1) := by decide +kernel
theorem dX10_lightest_10 : decode cX10_lightest 10 = .ok (.getfield 7, 3) := by decide +kernel
theorem dX10_lightest_13 : decode cX10_lightest 13 = .ok (.iconst 4, 1) := by decide +kernel
theorem dX10_lightest_14 : decode cX10_lightest 14 = .ok (.iaload, 1) := by decide +kernel
theorem dX10_lightest_15 : decode cX10_lightest 15 = .ok (.sipush 999, 3) := by decide +kernel
theorem dX10_lightest_18 : decode cX10_lightest 18 = .ok (.invokestatic 45, 3) := by decide +kernel
theorem dX10_lightest_21 : decode cX10_lightest 21 = .ok (.ifCond .ne 5, 3) := by decide +kernel
theorem dX10_lightest_24 : decode cX10_lightest 24 = .ok (.iconst (-1), 1) := by decide +kernel
theorem dX10_lightest_25 : decode cX10_lightest 25 = .ok (.ireturn, 1) := by decide +kernel
theorem dX10_lightest_26 : decode cX10_lightest 26 = .ok (.bipush (-4), 2) := by decide +kernel
theorem dX10_lightest_28 : decode cX10_lightest 28 = .ok (.istore_n 3, 1) := by decide +kernel
theorem dX10_lightest_29 : decode cX10_lightest 29 = .ok (.iconst 0, 1) := by decide +kernel
theorem dX10_lightest_30 : decode cX10_lightest 30 = .ok (.istore 4, 2) := by decide +kernel
theorem dX10_lightest_32 : decode cX10_lightest 32 = .ok (.iconst 0, 1) := by decide +kernel
theorem dX10_lightest_33 : decode cX10_lightest 33 = .ok (.istore 5, 2) := by decide +kernel
theorem dX10_lightest_35 : decode cX10_lightest 35 = .ok (.iload 5, 2) := by decide +kernel
theorem dX10_lightest_37 : decode cX10_lightest 37 = .ok (.aload_n 0, 1) := by decide +kernel
theorem dX10_lightest_38 : decode cX10_lightest 38 = .ok (.getfield 7, 3) := by decide +kernel
theorem dX10_lightest_41 : decode cX10_lightest 41 = .ok (.iconst 2, 1) := by decide +kernel
theorem dX10_lightest_42 : decode cX10_lightest 42 = .ok (.iaload, 1) := by decide +kernel
theorem dX10_lightest_43 : decode cX10_lightest 43 = .ok (.if_icmp .ge 86, 3) := by decide +kernel
theorem dX10_lightest_46 : decode cX10_lightest 46 = .ok (.aload_n 0, 1) := by decide +kernel
theorem dX10_lightest_47 : decode cX10_lightest 47 = .ok (.iload_n 1, 1) := by decide +kernel
theorem dX10_lightest_48 : decode cX10_lightest 48 = .ok (.iconst 3, 1) := by decide +kernel
theorem dX10_lightest_49 : decode cX10_lightest 49 = .ok (.invokevirtual 57, 3) := by decide +kernel
theorem dX10_lightest_52 : decode cX10_lightest 52 = .ok (.iload 5, 2) := by decide +kernel
theorem dX10_lightest_54 : decode cX10_lightest 54 = .ok (.if_icmp .eq 69, 3) := by decide +kernel
theorem dX10_lightest_57 : decode cX10_lightest 57 = .ok (.aload_n 0, 1) := by decide +kernel
theorem dX10_lightest_58 : decode cX10_lightest 58 = .ok (.iload 5, 2) := by decide +kernel
theorem dX10_lightest_60 : decode cX10_lightest 60 = .ok (.iload_n 1, 1) := by decide +kernel
theorem dX10_lightest_61 : decode cX10_lightest 61 = .ok (.invokevirtual 94, 3) := by decide +kernel
theorem dX10_lightest_64 : decode cX10_lightest 64 = .ok (.ifCond .eq 59, 3) := by decide +kernel
theorem dX10_lightest_67 : decode cX10_lightest 67 = .ok (.aload_n 0, 1) := by decide +kernel
theorem dX10_lightest_68 : decode cX10_lightest 68 = .ok (.iload 5, 2) := by decide +kernel
theorem dX10_lightest_70 : decode cX10_lightest 70 = .ok (.iload_n 1, 1) := by decide +kernel
theorem dX10_lightest_71 : decode cX10_lightest 71 = .ok (.iload_n 2, 1) := by decide +kernel
theorem dX10_lightest_72 : decode cX10_lightest 72 = .ok (.invokevirtual 182, 3) := by decide +kernel
theorem dX10_lightest_75 : decode cX10_lightest 75 = .ok (.istore 6, 2) := by decide +kernel
theorem dX10_lightest_77 : decode cX10_lightest 77 = .ok (.iload_n 3, 1) := by decide +kernel
theorem dX10_lightest_78 : decode cX10_lightest 78 = .ok (.bipush (-4), 2) := by decide +kernel
theorem dX10_lightest_80 : decode cX10_lightest 80 = .ok (.if_icmp .eq 10, 3) := by decide +kernel
theorem dX10_lightest_83 : decode cX10_lightest 83 = .ok (.iload 6, 2) := by decide +kernel
theorem dX10_lightest_85 : decode cX10_lightest 85 = .ok (.iload 4, 2) := by decide +kernel
theorem dX10_lightest_87 : decode cX10_lightest 87 = .ok (.if_icmp .ge 7, 3) := by decide +kernel
theorem dX10_lightest_90 : decode cX10_lightest 90 = .ok (.iconst 1, 1) := by decide +kernel
theorem dX10_lightest_91 : decode cX10_lightest 91 = .ok (.goto 4, 3) := by decide +kernel
theorem dX10_lightest_94 : decode cX10_lightest 94 = .ok (.iconst 0, 1) := by decide +kernel
theorem dX10_lightest_95 : decode cX10_lightest 95 = .ok (.istore 7, 2) := by decide +kernel
theorem dX10_lightest_97 : decode cX10_lightest 97 = .ok (.iload 7, 2) := by decide +kernel
theorem dX10_lightest_99 : decode cX10_lightest 99 = .ok (.ifCond .eq 8, 3) := by decide +kernel
theorem dX10_lightest_102 : decode cX10_lightest 102 = .ok (.iload 5, 2) := by decide +kernel
theorem dX10_lightest_104 : decode cX10_lightest 104 = .ok (.goto 4, 3) := by decide +kernel
theorem dX10_lightest_107 : decode cX10_lightest 107 = .ok (.iload_n 3, 1) := by decide +kernel
theorem dX10_lightest_108 : decode cX10_lightest 108 = .ok (.istore_n 3, 1) := by decide +kernel
theorem dX10_lightest_109 : decode cX10_lightest 109 = .ok (.iload 7, 2) := by decide +kernel
theorem dX10_lightest_111 : decode cX10_lightest 111 = .ok (.ifCond .eq 8, 3) := by decide +kernel
theorem dX10_lightest_114 : decode cX10_lightest 114 = .ok (.iload 6, 2) := by decide +kernel
theorem dX10_lightest_116 : decode cX10_lightest 116 = .ok (.goto 5, 3) := by decide +kernel
theorem dX10_lightest_119 : decode cX10_lightest 119 = .ok (.iload 4, 2) := by decide +kernel
theorem dX10_lightest_121 : decode cX10_lightest 121 = .ok (.istore 4, 2) := by decide +kernel
theorem dX10_lightest_123 : decode cX10_lightest 123 = .ok (.iinc 5 1, 3) := by decide +kernel
theorem dX10_lightest_126 : decode cX10_lightest 126 = .ok (.goto (-91), 3) := by decide +kernel
theorem dX10_lightest_129 : decode cX10_lightest 129 = .ok (.iload_n 3, 1) := by decide +kernel
theorem dX10_lightest_130 : decode cX10_lightest 130 = .ok (.ireturn, 1) := by decide +kernel
theorem dX10_nextDog_0 : decode cX10_nextDog 0 = .ok (.aload_n 0, 1) := by decide +kernel
theorem dX10_nextDog_1 : decode cX10_nextDog 1 = .ok (.iload_n 1, 1) := by decide +kernel
theorem dX10_nextDog_2 : decode cX10_nextDog 2 = .ok (.invokevirtual 75, 3) := by decide +kernel
theorem dX10_nextDog_5 : decode cX10_nextDog 5 = .ok (.ifCond .ne 5, 3) := by decide +kernel
theorem dX10_nextDog_8 : decode cX10_nextDog 8 = .ok (.iconst (-1), 1) := by decide +kernel
theorem dX10_nextDog_9 : decode cX10_nextDog 9 = .ok (.ireturn, 1) := by decide +kernel
theorem dX10_nextDog_10 : decode cX10_nextDog 10 = .ok (.aload_n 0, 1) := by decide +kernel
theorem dX10_nextDog_11 : decode cX10_nextDog 11 = .ok (.getfield 7, 3) := by decide +kernel
theorem dX10_nextDog_14 : decode cX10_nextDog 14 = .ok (.iconst 4, 1) := by decide +kernel
theorem dX10_nextDog_15 : decode cX10_nextDog 15 = .ok (.iaload, 1) := by decide +kernel
theorem dX10_nextDog_16 : decode cX10_nextDog 16 = .ok (.istore_n 2, 1) := by decide +kernel
theorem dX10_nextDog_17 : decode cX10_nextDog 17 = .ok (.iload_n 2, 1) := by decide +kernel
theorem dX10_nextDog_18 : decode cX10_nextDog 18 = .ok (.sipush 1000, 3) := by decide +kernel
theorem dX10_nextDog_21 : decode cX10_nextDog 21 = .ok (.if_icmp .ge 29, 3) := by decide +kernel
theorem dX10_nextDog_24 : decode cX10_nextDog 24 = .ok (.aload_n 0, 1) := by decide +kernel
theorem dX10_nextDog_25 : decode cX10_nextDog 25 = .ok (.iload_n 1, 1) := by decide +kernel
theorem dX10_nextDog_26 : decode cX10_nextDog 26 = .ok (.iload_n 2, 1) := by decide +kernel
theorem dX10_nextDog_27 : decode cX10_nextDog 27 = .ok (.invokevirtual 112, 3) := by decide +kernel
theorem dX10_nextDog_30 : decode cX10_nextDog 30 = .ok (.ifCond .eq 14, 3) := by decide +kernel
theorem dX10_nextDog_33 : decode cX10_nextDog 33 = .ok (.aload_n 0, 1) := by decide +kernel
theorem dX10_nextDog_34 : decode cX10_nextDog 34 = .ok (.iload_n 1, 1) := by decide +kernel
theorem dX10_nextDog_35 : decode cX10_nextDog 35 = .ok (.iload_n 2, 1) := by decide +kernel
theorem dX10_nextDog_36 : decode cX10_nextDog 36 = .ok (.invokevirtual 138, 3) := by decide +kernel
theorem dX10_nextDog_39 : decode cX10_nextDog 39 = .ok (.ifCond .ne 5, 3) := by decide +kernel
theorem dX10_nextDog_42 : decode cX10_nextDog 42 = .ok (.iload_n 2, 1) := by decide +kernel
theorem dX10_nextDog_43 : decode cX10_nextDog 43 = .ok (.ireturn, 1) := by decide +kernel
theorem dX10_nextDog_44 : decode cX10_nextDog 44 = .ok (.iinc 2 1, 3) := by decide +kernel
theorem dX10_nextDog_47 : decode cX10_nextDog 47 = .ok (.goto (-30), 3) := by decide +kernel
theorem dX10_nextDog_50 : decode cX10_nextDog 50 = .ok (.bipush (-4), 2) := by decide +kernel
theorem dX10_nextDog_52 : decode cX10_nextDog 52 = .ok (.ireturn, 1) := by decide +kernel
theorem dX10_overHouses_0 : decode cX10_overHouses 0 = .ok (.iconst 0, 1) := by decide +kernel
theorem dX10_overHouses_1 : decode cX10_overHouses 1 = .ok (.istore_n 2, 1) := by decide +kernel
theorem dX10_overHouses_2 : decode cX10_overHouses 2 = .ok (.iconst 0, 1) := by decide +kernel
theorem dX10_overHouses_3 : decode cX10_overHouses 3 = .ok (.istore_n 3, 1) := by decide +kernel
theorem dX10_overHouses_4 : decode cX10_overHouses 4 = .ok (.iload_n 3, 1) := by decide +kernel
theorem dX10_overHouses_5 : decode cX10_overHouses 5 = .ok (.aload_n 0, 1) := by decide +kernel
theorem dX10_overHouses_6 : decode cX10_overHouses 6 = .ok (.getfield 7, 3) := by decide +kernel
theorem dX10_overHouses_9 : decode cX10_overHouses 9 = .ok (.iconst 1, 1) := by decide +kernel
theorem dX10_overHouses_10 : decode cX10_overHouses 10 = .ok (.iaload, 1) := by decide +kernel
theorem dX10_overHouses_11 : decode cX10_overHouses 11 = .ok (.if_icmp .ge 18, 3) := by decide +kernel
theorem dX10_overHouses_14 : decode cX10_overHouses 14 = .ok (.iload_n 2, 1) := by decide +kernel
theorem dX10_overHouses_15 : decode cX10_overHouses 15 = .ok (.aload_n 0, 1) := by decide +kernel
theorem dX10_overHouses_16 : decode cX10_overHouses 16 = .ok (.iload_n 3, 1) := by decide +kernel
theorem dX10_overHouses_17 : decode cX10_overHouses 17 = .ok (.iload_n 1, 1) := by decide +kernel
theorem dX10_overHouses_18 : decode cX10_overHouses 18 = .ok (.invokevirtual 57, 3) := by decide +kernel
theorem dX10_overHouses_21 : decode cX10_overHouses 21 = .ok (.iadd, 1) := by decide +kernel
theorem dX10_overHouses_22 : decode cX10_overHouses 22 = .ok (.istore_n 2, 1) := by decide +kernel
theorem dX10_overHouses_23 : decode cX10_overHouses 23 = .ok (.iinc 3 1, 3) := by decide +kernel
theorem dX10_overHouses_26 : decode cX10_overHouses 26 = .ok (.goto (-22), 3) := by decide +kernel
theorem dX10_overHouses_29 : decode cX10_overHouses 29 = .ok (.iload_n 2, 1) := by decide +kernel
theorem dX10_overHouses_30 : decode cX10_overHouses 30 = .ok (.ireturn, 1) := by decide +kernel
theorem dX10_account_0 : decode cX10_account 0 = .ok (.iload_n 1, 1) := by decide +kernel
theorem dX10_account_1 : decode cX10_account 1 = .ok (.tableswitch 85 0 5 #[39, 74, 74, 74, 74, 74], 39) := by decide +kernel
theorem dX10_account_40 : decode cX10_account 40 = .ok (.aload_n 0, 1) := by decide +kernel
theorem dX10_account_41 : decode cX10_account 41 = .ok (.bipush 6, 2) := by decide +kernel
theorem dX10_account_43 : decode cX10_account 43 = .ok (.invokevirtual 185, 3) := by decide +kernel
theorem dX10_account_46 : decode cX10_account 46 = .ok (.aload_n 0, 1) := by decide +kernel
theorem dX10_account_47 : decode cX10_account 47 = .ok (.bipush 7, 2) := by decide +kernel
theorem dX10_account_49 : decode cX10_account 49 = .ok (.invokevirtual 185, 3) := by decide +kernel
theorem dX10_account_52 : decode cX10_account 52 = .ok (.iadd, 1) := by decide +kernel
theorem dX10_account_53 : decode cX10_account 53 = .ok (.aload_n 0, 1) := by decide +kernel
theorem dX10_account_54 : decode cX10_account 54 = .ok (.bipush 8, 2) := by decide +kernel
theorem dX10_account_56 : decode cX10_account 56 = .ok (.invokevirtual 185, 3) := by decide +kernel
theorem dX10_account_59 : decode cX10_account 59 = .ok (.iadd, 1) := by decide +kernel
theorem dX10_account_60 : decode cX10_account 60 = .ok (.aload_n 0, 1) := by decide +kernel
theorem dX10_account_61 : decode cX10_account 61 = .ok (.bipush 9, 2) := by decide +kernel
theorem dX10_account_63 : decode cX10_account 63 = .ok (.invokevirtual 185, 3) := by decide +kernel
theorem dX10_account_66 : decode cX10_account 66 = .ok (.iadd, 1) := by decide +kernel
theorem dX10_account_67 : decode cX10_account 67 = .ok (.aload_n 0, 1) := by decide +kernel
theorem dX10_account_68 : decode cX10_account 68 = .ok (.bipush 10, 2) := by decide +kernel
theorem dX10_account_70 : decode cX10_account 70 = .ok (.invokevirtual 185, 3) := by decide +kernel
theorem dX10_account_73 : decode cX10_account 73 = .ok (.iadd, 1) := by decide +kernel
theorem dX10_account_74 : decode cX10_account 74 = .ok (.ireturn, 1) := by decide +kernel
theorem dX10_account_75 : decode cX10_account 75 = .ok (.aload_n 0, 1) := by decide +kernel
theorem dX10_account_76 : decode cX10_account 76 = .ok (.bipush 6, 2) := by decide +kernel
theorem dX10_account_78 : decode cX10_account 78 = .ok (.iload_n 1, 1) := by decide +kernel
theorem dX10_account_79 : decode cX10_account 79 = .ok (.iadd, 1) := by decide +kernel
theorem dX10_account_80 : decode cX10_account 80 = .ok (.iconst 1, 1) := by decide +kernel
theorem dX10_account_81 : decode cX10_account 81 = .ok (.isub, 1) := by decide +kernel
theorem dX10_account_82 : decode cX10_account 82 = .ok (.invokevirtual 185, 3) := by decide +kernel
theorem dX10_account_85 : decode cX10_account 85 = .ok (.ireturn, 1) := by decide +kernel
theorem dX10_account_86 : decode cX10_account 86 = .ok (.iconst (-1), 1) := by decide +kernel
theorem dX10_account_87 : decode cX10_account 87 = .ok (.ireturn, 1) := by decide +kernel
theorem dX10_pausedNow_0 : decode cX10_pausedNow 0 = .ok (.iconst 0, 1) := by decide +kernel
theorem dX10_pausedNow_1 : decode cX10_pausedNow 1 = .ok (.istore_n 1, 1) := by decide +kernel
theorem dX10_pausedNow_2 : decode cX10_pausedNow 2 = .ok (.iconst 0, 1) := by decide +kernel
theorem dX10_pausedNow_3 : decode cX10_pausedNow 3 = .ok (.istore_n 2, 1) := by decide +kernel
theorem dX10_pausedNow_4 : decode cX10_pausedNow 4 = .ok (.iload_n 2, 1) := by decide +kernel
theorem dX10_pausedNow_5 : decode cX10_pausedNow 5 = .ok (.aload_n 0, 1) := by decide +kernel
theorem dX10_pausedNow_6 : decode cX10_pausedNow 6 = .ok (.getfield 7, 3) := by decide +kernel
theorem dX10_pausedNow_9 : decode cX10_pausedNow 9 = .ok (.iconst 1, 1) := by decide +kernel
theorem dX10_pausedNow_10 : decode cX10_pausedNow 10 = .ok (.iaload, 1) := by decide +kernel
theorem dX10_pausedNow_11 : decode cX10_pausedNow 11 = .ok (.if_icmp .ge 31, 3) := by decide +kernel
theorem dX10_pausedNow_14 : decode cX10_pausedNow 14 = .ok (.iload_n 1, 1) := by decide +kernel
theorem dX10_pausedNow_15 : decode cX10_pausedNow 15 = .ok (.aload_n 0, 1) := by decide +kernel
theorem dX10_pausedNow_16 : decode cX10_pausedNow 16 = .ok (.iload_n 2, 1) := by decide +kernel
theorem dX10_pausedNow_17 : decode cX10_pausedNow 17 = .ok (.aload_n 0, 1) := by decide +kernel
theorem dX10_pausedNow_18 : decode cX10_pausedNow 18 = .ok (.getfield 7, 3) := by decide +kernel
theorem dX10_pausedNow_21 : decode cX10_pausedNow 21 = .ok (.iconst 4, 1) := by decide +kernel
theorem dX10_pausedNow_22 : decode cX10_pausedNow 22 = .ok (.iaload, 1) := by decide +kernel
theorem dX10_pausedNow_23 : decode cX10_pausedNow 23 = .ok (.invokevirtual 138, 3) := by decide +kernel
theorem dX10_pausedNow_26 : decode cX10_pausedNow 26 = .ok (.ifCond .eq 7, 3) := by decide +kernel
theorem dX10_pausedNow_29 : decode cX10_pausedNow 29 = .ok (.iconst 1, 1) := by decide +kernel
theorem dX10_pausedNow_30 : decode cX10_pausedNow 30 = .ok (.goto 4, 3) := by decide +kernel
theorem dX10_pausedNow_33 : decode cX10_pausedNow 33 = .ok (.iconst 0, 1) := by decide +kernel
theorem dX10_pausedNow_34 : decode cX10_pausedNow 34 = .ok (.iadd, 1) := by decide +kernel
theorem dX10_pausedNow_35 : decode cX10_pausedNow 35 = .ok (.istore_n 1, 1) := by decide +kernel
theorem dX10_pausedNow_36 : decode cX10_pausedNow 36 = .ok (.iinc 2 1, 3) := by decide +kernel
theorem dX10_pausedNow_39 : decode cX10_pausedNow 39 = .ok (.goto (-35), 3) := by decide +kernel
theorem dX10_pausedNow_42 : decode cX10_pausedNow 42 = .ok (.iload_n 1, 1) := by decide +kernel
theorem dX10_pausedNow_43 : decode cX10_pausedNow 43 = .ok (.ireturn, 1) := by decide +kernel
theorem dX10_tipsAll_0 : decode cX10_tipsAll 0 = .ok (.iconst 0, 1) := by decide +kernel
theorem dX10_tipsAll_1 : decode cX10_tipsAll 1 = .ok (.istore_n 1, 1) := by decide +kernel
theorem dX10_tipsAll_2 : decode cX10_tipsAll 2 = .ok (.iconst 0, 1) := by decide +kernel
theorem dX10_tipsAll_3 : decode cX10_tipsAll 3 = .ok (.istore_n 2, 1) := by decide +kernel
theorem dX10_tipsAll_4 : decode cX10_tipsAll 4 = .ok (.iload_n 2, 1) := by decide +kernel
theorem dX10_tipsAll_5 : decode cX10_tipsAll 5 = .ok (.aload_n 0, 1) := by decide +kernel
theorem dX10_tipsAll_6 : decode cX10_tipsAll 6 = .ok (.getfield 7, 3) := by decide +kernel
theorem dX10_tipsAll_9 : decode cX10_tipsAll 9 = .ok (.iconst 2, 1) := by decide +kernel
theorem dX10_tipsAll_10 : decode cX10_tipsAll 10 = .ok (.iaload, 1) := by decide +kernel
theorem dX10_tipsAll_11 : decode cX10_tipsAll 11 = .ok (.if_icmp .ge 18, 3) := by decide +kernel
theorem dX10_tipsAll_14 : decode cX10_tipsAll 14 = .ok (.iload_n 1, 1) := by decide +kernel
theorem dX10_tipsAll_15 : decode cX10_tipsAll 15 = .ok (.aload_n 0, 1) := by decide +kernel
theorem dX10_tipsAll_16 : decode cX10_tipsAll 16 = .ok (.iload_n 2, 1) := by decide +kernel
theorem dX10_tipsAll_17 : decode cX10_tipsAll 17 = .ok (.iconst 5, 1) := by decide +kernel
theorem dX10_tipsAll_18 : decode cX10_tipsAll 18 = .ok (.invokevirtual 85, 3) := by decide +kernel
theorem dX10_tipsAll_21 : decode cX10_tipsAll 21 = .ok (.iadd, 1) := by decide +kernel
theorem dX10_tipsAll_22 : decode cX10_tipsAll 22 = .ok (.istore_n 1, 1) := by decide +kernel
theorem dX10_tipsAll_23 : decode cX10_tipsAll 23 = .ok (.iinc 2 1, 3) := by decide +kernel
theorem dX10_tipsAll_26 : decode cX10_tipsAll 26 = .ok (.goto (-22), 3) := by decide +kernel
theorem dX10_tipsAll_29 : decode cX10_tipsAll 29 = .ok (.iload_n 1, 1) := by decide +kernel
theorem dX10_tipsAll_30 : decode cX10_tipsAll 30 = .ok (.ireturn, 1) := by decide +kernel
theorem dX10_count_0 : decode cX10_count 0 = .ok (.iload_n 1, 1) := by decide +kernel
theorem dX10_count_1 : decode cX10_count 1 = .ok (.tableswitch 99 0 10 #[59, 59, 59, 59, 59, 66, 72, 77, 84, 89, 94], 59) := by decide +kernel
theorem dX10_count_60 : decode cX10_count 60 = .ok (.aload_n 0, 1) := by decide +kernel
theorem dX10_count_61 : decode cX10_count 61 = .ok (.getfield 7, 3) := by decide +kernel
theorem dX10_count_64 : decode cX10_count 64 = .ok (.iload_n 1, 1) := by decide +kernel
theorem dX10_count_65 : decode cX10_count 65 = .ok (.iaload, 1) := by decide +kernel
theorem dX10_count_66 : decode cX10_count 66 = .ok (.ireturn, 1) := by decide +kernel
theorem dX10_count_67 : decode cX10_count 67 = .ok (.aload_n 0, 1) := by decide +kernel
theorem dX10_count_68 : decode cX10_count 68 = .ok (.iconst (-1), 1) := by decide +kernel
theorem dX10_count_69 : decode cX10_count 69 = .ok (.invokevirtual 97, 3) := by decide +kernel
theorem dX10_count_72 : decode cX10_count 72 = .ok (.ireturn, 1) := by decide +kernel
theorem dX10_count_73 : decode cX10_count 73 = .ok (.aload_n 0, 1) := by decide +kernel
theorem dX10_count_74 : decode cX10_count 74 = .ok (.invokevirtual 188, 3) := by decide +kernel
theorem dX10_count_77 : decode cX10_count 77 = .ok (.ireturn, 1) := by decide +kernel
theorem dX10_count_78 : decode cX10_count 78 = .ok (.aload_n 0, 1) := by decide +kernel
theorem dX10_count_79 : decode cX10_count 79 = .ok (.bipush 11, 2) := by decide +kernel
theorem dX10_count_81 : decode cX10_count 81 = .ok (.invokevirtual 185, 3) := by decide +kernel
theorem dX10_count_84 : decode cX10_count 84 = .ok (.ireturn, 1) := by decide +kernel
theorem dX10_count_85 : decode cX10_count 85 = .ok (.aload_n 0, 1) := by decide +kernel
theorem dX10_count_86 : decode cX10_count 86 = .ok (.invokevirtual 191, 3) := by decide +kernel
theorem dX10_count_89 : decode cX10_count 89 = .ok (.ireturn, 1) := by decide +kernel
theorem dX10_count_90 : decode cX10_count 90 = .ok (.aload_n 0, 1) := by decide +kernel
theorem dX10_count_91 : decode cX10_count 91 = .ok (.getfield 41, 3) := by decide +kernel
theorem dX10_count_94 : decode cX10_count 94 = .ok (.ireturn, 1) := by decide +kernel
theorem dX10_count_95 : decode cX10_count 95 = .ok (.aload_n 0, 1) := by decide +kernel
theorem dX10_count_96 : decode cX10_count 96 = .ok (.getfield 194, 3) := by decide +kernel
theorem dX10_count_99 : decode cX10_count 99 = .ok (.ireturn, 1) := by decide +kernel
theorem dX10_count_100 : decode cX10_count 100 = .ok (.iload_n 1, 1) := by decide +kernel
theorem dX10_count_101 : decode cX10_count 101 = .ok (.bipush 20, 2) := by decide +kernel
theorem dX10_count_103 : decode cX10_count 103 = .ok (.bipush 21, 2) := by decide +kernel
theorem dX10_count_105 : decode cX10_count 105 = .ok (.invokestatic 45, 3) := by decide +kernel
theorem dX10_count_108 : decode cX10_count 108 = .ok (.ifCond .eq 17, 3) := by decide +kernel
theorem dX10_count_111 : decode cX10_count 111 = .ok (.aload_n 0, 1) := by decide +kernel
theorem dX10_count_112 : decode cX10_count 112 = .ok (.getfield 7, 3) := by decide +kernel
theorem dX10_count_115 : decode cX10_count 115 = .ok (.iconst 5, 1) := by decide +kernel
theorem dX10_count_116 : decode cX10_count 116 = .ok (.iload_n 1, 1) := by decide +kernel
theorem dX10_count_117 : decode cX10_count 117 = .ok (.iadd, 1) := by decide +kernel
theorem dX10_count_118 : decode cX10_count 118 = .ok (.bipush 20, 2) := by decide +kernel
theorem dX10_count_120 : decode cX10_count 120 = .ok (.isub, 1) := by decide +kernel
theorem dX10_count_121 : decode cX10_count 121 = .ok (.iaload, 1) := by decide +kernel
theorem dX10_count_122 : decode cX10_count 122 = .ok (.goto 4, 3) := by decide +kernel
theorem dX10_count_125 : decode cX10_count 125 = .ok (.iconst (-1), 1) := by decide +kernel
theorem dX10_count_126 : decode cX10_count 126 = .ok (.ireturn, 1) := by decide +kernel
theorem dX10_undo_0 : decode cX10_undo 0 = .ok (.aload_n 0, 1) := by decide +kernel
theorem dX10_undo_1 : decode cX10_undo 1 = .ok (.getfield 41, 3) := by decide +kernel
theorem dX10_undo_4 : decode cX10_undo 4 = .ok (.ifCond .ne 6, 3) := by decide +kernel
theorem dX10_undo_7 : decode cX10_undo 7 = .ok (.bipush (-2), 2) := by decide +kernel
theorem dX10_undo_9 : decode cX10_undo 9 = .ok (.ireturn, 1) := by decide +kernel
theorem dX10_undo_10 : decode cX10_undo 10 = .ok (.aload_n 0, 1) := by decide +kernel
theorem dX10_undo_11 : decode cX10_undo 11 = .ok (.dup, 1) := by decide +kernel
theorem dX10_undo_12 : decode cX10_undo 12 = .ok (.getfield 41, 3) := by decide +kernel
theorem dX10_undo_15 : decode cX10_undo 15 = .ok (.iconst 1, 1) := by decide +kernel
theorem dX10_undo_16 : decode cX10_undo 16 = .ok (.isub, 1) := by decide +kernel
theorem dX10_undo_17 : decode cX10_undo 17 = .ok (.putfield 41, 3) := by decide +kernel
theorem dX10_undo_20 : decode cX10_undo 20 = .ok (.aload_n 0, 1) := by decide +kernel
theorem dX10_undo_21 : decode cX10_undo 21 = .ok (.getfield 13, 3) := by decide +kernel
theorem dX10_undo_24 : decode cX10_undo 24 = .ok (.aload_n 0, 1) := by decide +kernel
theorem dX10_undo_25 : decode cX10_undo 25 = .ok (.getfield 41, 3) := by decide +kernel
theorem dX10_undo_28 : decode cX10_undo 28 = .ok (.sipush 537, 3) := by decide +kernel
theorem dX10_undo_31 : decode cX10_undo 31 = .ok (.imul, 1) := by decide +kernel
theorem dX10_undo_32 : decode cX10_undo 32 = .ok (.aload_n 0, 1) := by decide +kernel
theorem dX10_undo_33 : decode cX10_undo 33 = .ok (.getfield 7, 3) := by decide +kernel
theorem dX10_undo_36 : decode cX10_undo 36 = .ok (.iconst 0, 1) := by decide +kernel
theorem dX10_undo_37 : decode cX10_undo 37 = .ok (.invokestatic 37, 3) := by decide +kernel
theorem dX10_undo_40 : decode cX10_undo 40 = .ok (.aload_n 0, 1) := by decide +kernel
theorem dX10_undo_41 : decode cX10_undo 41 = .ok (.getfield 41, 3) := by decide +kernel
theorem dX10_undo_44 : decode cX10_undo 44 = .ok (.ireturn, 1) := by decide +kernel
theorem dX10_type_0 : decode cX10_type 0 = .ok (.iload_n 1, 1) := by decide +kernel
theorem dX10_type_1 : decode cX10_type 1 = .ok (.bipush 32, 2) := by decide +kernel
theorem dX10_type_3 : decode cX10_type 3 = .ok (.bipush 126, 2) := by decide +kernel
theorem dX10_type_5 : decode cX10_type 5 = .ok (.invokestatic 45, 3) := by decide +kernel
theorem dX10_type_8 : decode cX10_type 8 = .ok (.ifCond .ne 5, 3) := by decide +kernel
theorem dX10_type_11 : decode cX10_type 11 = .ok (.iconst (-1), 1) := by decide +kernel
theorem dX10_type_12 : decode cX10_type 12 = .ok (.ireturn, 1) := by decide +kernel
theorem dX10_type_13 : decode cX10_type 13 = .ok (.aload_n 0, 1) := by decide +kernel
theorem dX10_type_14 : decode cX10_type 14 = .ok (.getfield 194, 3) := by decide +kernel
theorem dX10_type_17 : decode cX10_type 17 = .ok (.bipush 60, 2) := by decide +kernel
theorem dX10_type_19 : decode cX10_type 19 = .ok (.if_icmp .ne 6, 3) := by decide +kernel
theorem dX10_type_22 : decode cX10_type 22 = .ok (.bipush (-3), 2) := by decide +kernel
theorem dX10_type_24 : decode cX10_type 24 = .ok (.ireturn, 1) := by decide +kernel
theorem dX10_type_25 : decode cX10_type 25 = .ok (.aload_n 0, 1) := by decide +kernel
theorem dX10_type_26 : decode cX10_type 26 = .ok (.getfield 22, 3) := by decide +kernel
theorem dX10_type_29 : decode cX10_type 29 = .ok (.aload_n 0, 1) := by decide +kernel
theorem dX10_type_30 : decode cX10_type 30 = .ok (.getfield 194, 3) := by decide +kernel
theorem dX10_type_33 : decode cX10_type 33 = .ok (.iload_n 1, 1) := by decide +kernel
theorem dX10_type_34 : decode cX10_type 34 = .ok (.iastore, 1) := by decide +kernel
theorem dX10_type_35 : decode cX10_type 35 = .ok (.aload_n 0, 1) := by decide +kernel
theorem dX10_type_36 : decode cX10_type 36 = .ok (.dup, 1) := by decide +kernel
theorem dX10_type_37 : decode cX10_type 37 = .ok (.getfield 194, 3) := by decide +kernel
theorem dX10_type_40 : decode cX10_type 40 = .ok (.iconst 1, 1) := by decide +kernel
theorem dX10_type_41 : decode cX10_type 41 = .ok (.iadd, 1) := by decide +kernel
theorem dX10_type_42 : decode cX10_type 42 = .ok (.putfield 194, 3) := by decide +kernel
theorem dX10_type_45 : decode cX10_type 45 = .ok (.aload_n 0, 1) := by decide +kernel
theorem dX10_type_46 : decode cX10_type 46 = .ok (.getfield 194, 3) := by decide +kernel
theorem dX10_type_49 : decode cX10_type 49 = .ok (.ireturn, 1) := by decide +kernel
theorem dX10_clearText_0 : decode cX10_clearText 0 = .ok (.aload_n 0, 1) := by decide +kernel
theorem dX10_clearText_1 : decode cX10_clearText 1 = .ok (.getfield 194, 3) := by decide +kernel
theorem dX10_clearText_4 : decode cX10_clearText 4 = .ok (.istore_n 1, 1) := by decide +kernel
theorem dX10_clearText_5 : decode cX10_clearText 5 = .ok (.aload_n 0, 1) := by decide +kernel
theorem dX10_clearText_6 : decode cX10_clearText 6 = .ok (.iconst 0, 1) := by decide +kernel
theorem dX10_clearText_7 : decode cX10_clearText 7 = .ok (.putfield 194, 3) := by decide +kernel
theorem dX10_clearText_10 : decode cX10_clearText 10 = .ok (.iload_n 1, 1) := by decide +kernel
theorem dX10_clearText_11 : decode cX10_clearText 11 = .ok (.ireturn, 1) := by decide +kernel
theorem dX10_signAt_0 : decode cX10_signAt 0 = .ok (.iload_n 1, 1) := by decide +kernel
theorem dX10_signAt_1 : decode cX10_signAt 1 = .ok (.aload_n 0, 1) := by decide +kernel
theorem dX10_signAt_2 : decode cX10_signAt 2 = .ok (.getfield 194, 3) := by decide +kernel
theorem dX10_signAt_5 : decode cX10_signAt 5 = .ok (.if_icmp .ge 12, 3) := by decide +kernel
theorem dX10_signAt_8 : decode cX10_signAt 8 = .ok (.aload_n 0, 1) := by decide +kernel
theorem dX10_signAt_9 : decode cX10_signAt 9 = .ok (.getfield 22, 3) := by decide +kernel
theorem dX10_signAt_12 : decode cX10_signAt 12 = .ok (.iload_n 1, 1) := by decide +kernel
theorem dX10_signAt_13 : decode cX10_signAt 13 = .ok (.iaload, 1) := by decide +kernel
theorem dX10_signAt_14 : decode cX10_signAt 14 = .ok (.goto 4, 3) := by decide +kernel
theorem dX10_signAt_17 : decode cX10_signAt 17 = .ok (.iconst 0, 1) := by decide +kernel
theorem dX10_signAt_18 : decode cX10_signAt 18 = .ok (.ireturn, 1) := by decide +kernel
theorem dX10_readsNumber_0 : decode cX10_readsNumber 0 = .ok (.iconst 0, 1) := by decide +kernel
theorem dX10_readsNumber_1 : decode cX10_readsNumber 1 = .ok (.istore_n 2, 1) := by decide +kernel
theorem dX10_readsNumber_2 : decode cX10_readsNumber 2 = .ok (.iconst 0, 1) := by decide +kernel
theorem dX10_readsNumber_3 : decode cX10_readsNumber 3 = .ok (.istore_n 3, 1) := by decide +kernel
theorem dX10_readsNumber_4 : decode cX10_readsNumber 4 = .ok (.iload_n 3, 1) := by decide +kernel
theorem dX10_readsNumber_5 : decode cX10_readsNumber 5 = .ok (.iconst 3, 1) := by decide +kernel
theorem dX10_readsNumber_6 : decode cX10_readsNumber 6 = .ok (.if_icmp .ge 54, 3) := by decide +kernel
theorem dX10_readsNumber_9 : decode cX10_readsNumber 9 = .ok (.aload_n 0, 1) := by decide +kernel
theorem dX10_readsNumber_10 : decode cX10_readsNumber 10 = .ok (.aload_n 0, 1) := by decide +kernel
theorem dX10_readsNumber_11 : decode cX10_readsNumber 11 = .ok (.getfield 197, 3) := by decide +kernel
theorem dX10_readsNumber_14 : decode cX10_readsNumber 14 = .ok (.invokevirtual 200, 3) := by decide +kernel
theorem dX10_readsNumber_17 : decode cX10_readsNumber 17 = .ok (.bipush 48, 2) := by decide +kernel
theorem dX10_readsNumber_19 : decode cX10_readsNumber 19 = .ok (.bipush 57, 2) := by decide +kernel
theorem dX10_readsNumber_21 : decode cX10_readsNumber 21 = .ok (.invokestatic 45, 3) := by decide +kernel
theorem dX10_readsNumber_24 : decode cX10_readsNumber 24 = .ok (.ifCond .eq 36, 3) := by decide +kernel
theorem dX10_readsNumber_27 : decode cX10_readsNumber 27 = .ok (.bipush 10, 2) := by decide +kernel
theorem dX10_readsNumber_29 : decode cX10_readsNumber 29 = .ok (.iload_n 2, 1) := by decide +kernel
theorem dX10_readsNumber_30 : decode cX10_readsNumber 30 = .ok (.imul, 1) := by decide +kernel
theorem dX10_readsNumber_31 : decode cX10_readsNumber 31 = .ok (.aload_n 0, 1) := by decide +kernel
theorem dX10_readsNumber_32 : decode cX10_readsNumber 32 = .ok (.aload_n 0, 1) := by decide +kernel
theorem dX10_readsNumber_33 : decode cX10_readsNumber 33 = .ok (.getfield 197, 3) := by decide +kernel
theorem dX10_readsNumber_36 : decode cX10_readsNumber 36 = .ok (.invokevirtual 200, 3) := by decide +kernel
theorem dX10_readsNumber_39 : decode cX10_readsNumber 39 = .ok (.iadd, 1) := by decide +kernel
theorem dX10_readsNumber_40 : decode cX10_readsNumber 40 = .ok (.bipush 48, 2) := by decide +kernel
theorem dX10_readsNumber_42 : decode cX10_readsNumber 42 = .ok (.isub, 1) := by decide +kernel
theorem dX10_readsNumber_43 : decode cX10_readsNumber 43 = .ok (.istore_n 2, 1) := by decide +kernel
theorem dX10_readsNumber_44 : decode cX10_readsNumber 44 = .ok (.aload_n 0, 1) := by decide +kernel
theorem dX10_readsNumber_45 : decode cX10_readsNumber 45 = .ok (.dup, 1) := by decide +kernel
theorem dX10_readsNumber_46 : decode cX10_readsNumber 46 = .ok (.getfield 197, 3) := by decide +kernel
theorem dX10_readsNumber_49 : decode cX10_readsNumber 49 = .ok (.iconst 1, 1) := by decide +kernel
theorem dX10_readsNumber_50 : decode cX10_readsNumber 50 = .ok (.iadd, 1) := by decide +kernel
theorem dX10_readsNumber_51 : decode cX10_readsNumber 51 = .ok (.putfield 197, 3) := by decide +kernel
theorem dX10_readsNumber_54 : decode cX10_readsNumber 54 = .ok (.iinc 3 1, 3) := by decide +kernel
theorem dX10_readsNumber_57 : decode cX10_readsNumber 57 = .ok (.goto (-53), 3) := by decide +kernel
theorem dX10_readsNumber_60 : decode cX10_readsNumber 60 = .ok (.aload_n 0, 1) := by decide +kernel
theorem dX10_readsNumber_61 : decode cX10_readsNumber 61 = .ok (.getfield 34, 3) := by decide +kernel
theorem dX10_readsNumber_64 : decode cX10_readsNumber 64 = .ok (.iload_n 1, 1) := by decide +kernel
theorem dX10_readsNumber_65 : decode cX10_readsNumber 65 = .ok (.iload_n 2, 1) := by decide +kernel
theorem dX10_readsNumber_66 : decode cX10_readsNumber 66 = .ok (.iastore, 1) := by decide +kernel
theorem dX10_readsNumber_67 : decode cX10_readsNumber 67 = .ok (.iload_n 3, 1) := by decide +kernel
theorem dX10_readsNumber_68 : decode cX10_readsNumber 68 = .ok (.ifCond .le 7, 3) := by decide +kernel
theorem dX10_readsNumber_71 : decode cX10_readsNumber 71 = .ok (.iconst 1, 1) := by decide +kernel
theorem dX10_readsNumber_72 : decode cX10_readsNumber 72 = .ok (.goto 4, 3) := by decide +kernel
theorem dX10_readsNumber_75 : decode cX10_readsNumber 75 = .ok (.iconst 0, 1) := by decide +kernel
theorem dX10_readsNumber_76 : decode cX10_readsNumber 76 = .ok (.ireturn, 1) := by decide +kernel
theorem dX10_reads_0 : decode cX10_reads 0 = .ok (.aload_n 0, 1) := by decide +kernel
theorem dX10_reads_1 : decode cX10_reads 1 = .ok (.aload_n 0, 1) := by decide +kernel
theorem dX10_reads_2 : decode cX10_reads 2 = .ok (.iload_n 1, 1) := by decide +kernel
theorem dX10_reads_3 : decode cX10_reads 3 = .ok (.invokevirtual 200, 3) := by decide +kernel
theorem dX10_reads_6 : decode cX10_reads 6 = .ok (.putfield 203, 3) := by decide +kernel
theorem dX10_reads_9 : decode cX10_reads 9 = .ok (.aload_n 0, 1) := by decide +kernel
theorem dX10_reads_10 : decode cX10_reads 10 = .ok (.iload_n 1, 1) := by decide +kernel
theorem dX10_reads_11 : decode cX10_reads 11 = .ok (.iconst 1, 1) := by decide +kernel
theorem dX10_reads_12 : decode cX10_reads 12 = .ok (.iadd, 1) := by decide +kernel
theorem dX10_reads_13 : decode cX10_reads 13 = .ok (.putfield 197, 3) := by decide +kernel
theorem dX10_reads_16 : decode cX10_reads 16 = .ok (.aload_n 0, 1) := by decide +kernel
theorem dX10_reads_17 : decode cX10_reads 17 = .ok (.getfield 203, 3) := by decide +kernel
theorem dX10_reads_20 : decode cX10_reads 20 = .ok (.bipush 112, 2) := by decide +kernel
theorem dX10_reads_22 : decode cX10_reads 22 = .ok (.if_icmp .ne 7, 3) := by decide +kernel
theorem dX10_reads_25 : decode cX10_reads 25 = .ok (.iconst 3, 1) := by decide +kernel
theorem dX10_reads_26 : decode cX10_reads 26 = .ok (.goto 48, 3) := by decide +kernel
theorem dX10_reads_29 : decode cX10_reads 29 = .ok (.aload_n 0, 1) := by decide +kernel
theorem dX10_reads_30 : decode cX10_reads 30 = .ok (.getfield 203, 3) := by decide +kernel
theorem dX10_reads_33 : decode cX10_reads 33 = .ok (.bipush 103, 2) := by decide +kernel
theorem dX10_reads_35 : decode cX10_reads 35 = .ok (.if_icmp .eq 12, 3) := by decide +kernel
theorem dX10_reads_38 : decode cX10_reads 38 = .ok (.aload_n 0, 1) := by decide +kernel
theorem dX10_reads_39 : decode cX10_reads 39 = .ok (.getfield 203, 3) := by decide +kernel
theorem dX10_reads_42 : decode cX10_reads 42 = .ok (.bipush 98, 2) := by decide +kernel
theorem dX10_reads_44 : decode cX10_reads 44 = .ok (.if_icmp .ne 7, 3) := by decide +kernel
theorem dX10_reads_47 : decode cX10_reads 47 = .ok (.iconst 2, 1) := by decide +kernel
theorem dX10_reads_48 : decode cX10_reads 48 = .ok (.goto 26, 3) := by decide +kernel
theorem dX10_reads_51 : decode cX10_reads 51 = .ok (.aload_n 0, 1) := by decide +kernel
theorem dX10_reads_52 : decode cX10_reads 52 = .ok (.getfield 203, 3) := by decide +kernel
theorem dX10_reads_55 : decode cX10_reads 55 = .ok (.bipush 110, 2) := by decide +kernel
theorem dX10_reads_57 : decode cX10_reads 57 = .ok (.if_icmp .eq 12, 3) := by decide +kernel
theorem dX10_reads_60 : decode cX10_reads 60 = .ok (.aload_n 0, 1) := by decide +kernel
theorem dX10_reads_61 : decode cX10_reads 61 = .ok (.getfield 203, 3) := by decide +kernel
theorem dX10_reads_64 : decode cX10_reads 64 = .ok (.bipush 100, 2) := by decide +kernel
theorem dX10_reads_66 : decode cX10_reads 66 = .ok (.if_icmp .ne 7, 3) := by decide +kernel
theorem dX10_reads_69 : decode cX10_reads 69 = .ok (.iconst 1, 1) := by decide +kernel
theorem dX10_reads_70 : decode cX10_reads 70 = .ok (.goto 4, 3) := by decide +kernel
theorem dX10_reads_73 : decode cX10_reads 73 = .ok (.iconst 0, 1) := by decide +kernel
theorem dX10_reads_74 : decode cX10_reads 74 = .ok (.istore_n 2, 1) := by decide +kernel
theorem dX10_reads_75 : decode cX10_reads 75 = .ok (.iload_n 2, 1) := by decide +kernel
theorem dX10_reads_76 : decode cX10_reads 76 = .ok (.ifCond .le 7, 3) := by decide +kernel
theorem dX10_reads_79 : decode cX10_reads 79 = .ok (.iconst 1, 1) := by decide +kernel
theorem dX10_reads_80 : decode cX10_reads 80 = .ok (.goto 4, 3) := by decide +kernel
theorem dX10_reads_83 : decode cX10_reads 83 = .ok (.iconst 0, 1) := by decide +kernel
theorem dX10_reads_84 : decode cX10_reads 84 = .ok (.istore_n 3, 1) := by decide +kernel
theorem dX10_reads_85 : decode cX10_reads 85 = .ok (.iconst 0, 1) := by decide +kernel
theorem dX10_reads_86 : decode cX10_reads 86 = .ok (.istore 4, 2) := by decide +kernel
theorem dX10_reads_88 : decode cX10_reads 88 = .ok (.iload 4, 2) := by decide +kernel
theorem dX10_reads_90 : decode cX10_reads 90 = .ok (.iload_n 2, 1) := by decide +kernel
theorem dX10_reads_91 : decode cX10_reads 91 = .ok (.if_icmp .ge 66, 3) := by decide +kernel
theorem dX10_reads_94 : decode cX10_reads 94 = .ok (.iload_n 3, 1) := by decide +kernel
theorem dX10_reads_95 : decode cX10_reads 95 = .ok (.ifCond .eq 62, 3) := by decide +kernel
theorem dX10_reads_98 : decode cX10_reads 98 = .ok (.iload 4, 2) := by decide +kernel
theorem dX10_reads_100 : decode cX10_reads 100 = .ok (.ifCond .le 32, 3) := by decide +kernel
theorem dX10_reads_103 : decode cX10_reads 103 = .ok (.aload_n 0, 1) := by decide +kernel
theorem dX10_reads_104 : decode cX10_reads 104 = .ok (.aload_n 0, 1) := by decide +kernel
theorem dX10_reads_105 : decode cX10_reads 105 = .ok (.getfield 197, 3) := by decide +kernel
theorem dX10_reads_108 : decode cX10_reads 108 = .ok (.invokevirtual 200, 3) := by decide +kernel
theorem dX10_reads_111 : decode cX10_reads 111 = .ok (.bipush 44, 2) := by decide +kernel
theorem dX10_reads_113 : decode cX10_reads 113 = .ok (.if_icmp .ne 7, 3) := by decide +kernel
theorem dX10_reads_116 : decode cX10_reads 116 = .ok (.iconst 1, 1) := by decide +kernel
theorem dX10_reads_117 : decode cX10_reads 117 = .ok (.goto 4, 3) := by decide +kernel
theorem dX10_reads_120 : decode cX10_reads 120 = .ok (.iconst 0, 1) := by decide +kernel
theorem dX10_reads_121 : decode cX10_reads 121 = .ok (.istore_n 3, 1) := by decide +kernel
theorem dX10_reads_122 : decode cX10_reads 122 = .ok (.aload_n 0, 1) := by decide +kernel
theorem dX10_reads_123 : decode cX10_reads 123 = .ok (.dup, 1) := by decide +kernel
theorem dX10_reads_124 : decode cX10_reads 124 = .ok (.getfield 197, 3) := by decide +kernel
theorem dX10_reads_127 : decode cX10_reads 127 = .ok (.iconst 1, 1) := by decide +kernel
theorem dX10_reads_128 : decode cX10_reads 128 = .ok (.iadd, 1) := by decide +kernel
theorem dX10_reads_129 : decode cX10_reads 129 = .ok (.putfield 197, 3) := by decide +kernel
theorem dX10_reads_132 : decode cX10_reads 132 = .ok (.iload_n 3, 1) := by decide +kernel
theorem dX10_reads_133 : decode cX10_reads 133 = .ok (.ifCond .eq 16, 3) := by decide +kernel
theorem dX10_reads_136 : decode cX10_reads 136 = .ok (.aload_n 0, 1) := by decide +kernel
theorem dX10_reads_137 : decode cX10_reads 137 = .ok (.iload 4, 2) := by decide +kernel
theorem dX10_reads_139 : decode cX10_reads 139 = .ok (.invokevirtual 206, 3) := by decide +kernel
theorem dX10_reads_142 : decode cX10_reads 142 = .ok (.ifCond .eq 7, 3) := by decide +kernel
theorem dX10_reads_145 : decode cX10_reads 145 = .ok (.iconst 1, 1) := by decide +kernel
theorem dX10_reads_146 : decode cX10_reads 146 = .ok (.goto 4, 3) := by decide +kernel
theorem dX10_reads_149 : decode cX10_reads 149 = .ok (.iconst 0, 1) := by decide +kernel
theorem dX10_reads_150 : decode cX10_reads 150 = .ok (.istore_n 3, 1) := by decide +kernel
theorem dX10_reads_151 : decode cX10_reads 151 = .ok (.iinc 4 1, 3) := by decide +kernel
theorem dX10_reads_154 : decode cX10_reads 154 = .ok (.goto (-66), 3) := by decide +kernel
theorem dX10_reads_157 : decode cX10_reads 157 = .ok (.iload_n 3, 1) := by decide +kernel
theorem dX10_reads_158 : decode cX10_reads 158 = .ok (.ifCond .eq 20, 3) := by decide +kernel
theorem dX10_reads_161 : decode cX10_reads 161 = .ok (.aload_n 0, 1) := by decide +kernel
theorem dX10_reads_162 : decode cX10_reads 162 = .ok (.aload_n 0, 1) := by decide +kernel
theorem dX10_reads_163 : decode cX10_reads 163 = .ok (.getfield 197, 3) := by decide +kernel
theorem dX10_reads_166 : decode cX10_reads 166 = .ok (.invokevirtual 200, 3) := by decide +kernel
theorem dX10_reads_169 : decode cX10_reads 169 = .ok (.bipush 59, 2) := by decide +kernel
theorem dX10_reads_171 : decode cX10_reads 171 = .ok (.if_icmp .ne 7, 3) := by decide +kernel
theorem dX10_reads_174 : decode cX10_reads 174 = .ok (.iconst 1, 1) := by decide +kernel
theorem dX10_reads_175 : decode cX10_reads 175 = .ok (.goto 4, 3) := by decide +kernel
theorem dX10_reads_178 : decode cX10_reads 178 = .ok (.iconst 0, 1) := by decide +kernel
theorem dX10_reads_179 : decode cX10_reads 179 = .ok (.istore_n 3, 1) := by decide +kernel
theorem dX10_reads_180 : decode cX10_reads 180 = .ok (.aload_n 0, 1) := by decide +kernel
theorem dX10_reads_181 : decode cX10_reads 181 = .ok (.dup, 1) := by decide +kernel
theorem dX10_reads_182 : decode cX10_reads 182 = .ok (.getfield 197, 3) := by decide +kernel
theorem dX10_reads_185 : decode cX10_reads 185 = .ok (.iconst 1, 1) := by decide +kernel
theorem dX10_reads_186 : decode cX10_reads 186 = .ok (.iadd, 1) := by decide +kernel
theorem dX10_reads_187 : decode cX10_reads 187 = .ok (.putfield 197, 3) := by decide +kernel
theorem dX10_reads_190 : decode cX10_reads 190 = .ok (.iload_n 3, 1) := by decide +kernel
theorem dX10_reads_191 : decode cX10_reads 191 = .ok (.ireturn, 1) := by decide +kernel
theorem dX10_does_0 : decode cX10_does 0 = .ok (.aload_n 0, 1) := by decide +kernel
theorem dX10_does_1 : decode cX10_does 1 = .ok (.getfield 203, 3) := by decide +kernel
theorem dX10_does_4 : decode cX10_does 4 = .ok (.lookupswitch 112 #[(98, 95), (103, 67), (110, 84), (112, 44)], 44) := by decide +kernel
theorem dX10_does_48 : decode cX10_does 48 = .ok (.aload_n 0, 1) := by decide +kernel
theorem dX10_does_49 : decode cX10_does 49 = .ok (.aload_n 0, 1) := by decide +kernel
theorem dX10_does_50 : decode cX10_does 50 = .ok (.getfield 34, 3) := by decide +kernel
theorem dX10_does_53 : decode cX10_does 53 = .ok (.iconst 0, 1) := by decide +kernel
theorem dX10_does_54 : decode cX10_does 54 = .ok (.iaload, 1) := by decide +kernel
theorem dX10_does_55 : decode cX10_does 55 = .ok (.aload_n 0, 1) := by decide +kernel
theorem dX10_does_56 : decode cX10_does 56 = .ok (.getfield 34, 3) := by decide +kernel
theorem dX10_does_59 : decode cX10_does 59 = .ok (.iconst 1, 1) := by decide +kernel
theorem dX10_does_60 : decode cX10_does 60 = .ok (.iaload, 1) := by decide +kernel
theorem dX10_does_61 : decode cX10_does 61 = .ok (.aload_n 0, 1) := by decide +kernel
theorem dX10_does_62 : decode cX10_does 62 = .ok (.getfield 34, 3) := by decide +kernel
theorem dX10_does_65 : decode cX10_does 65 = .ok (.iconst 2, 1) := by decide +kernel
theorem dX10_does_66 : decode cX10_does 66 = .ok (.iaload, 1) := by decide +kernel
theorem dX10_does_67 : decode cX10_does 67 = .ok (.invokevirtual 78, 3) := by decide +kernel
theorem dX10_does_70 : decode cX10_does 70 = .ok (.ireturn, 1) := by decide +kernel
theorem dX10_does_71 : decode cX10_does 71 = .ok (.aload_n 0, 1) := by decide +kernel
theorem dX10_does_72 : decode cX10_does 72 = .ok (.aload_n 0, 1) := by decide +kernel
theorem dX10_does_73 : decode cX10_does 73 = .ok (.getfield 34, 3) := by decide +kernel
theorem dX10_does_76 : decode cX10_does 76 = .ok (.iconst 0, 1) := by decide +kernel
theorem dX10_does_77 : decode cX10_does 77 = .ok (.iaload, 1) := by decide +kernel
theorem dX10_does_78 : decode cX10_does 78 = .ok (.aload_n 0, 1) := by decide +kernel
theorem dX10_does_79 : decode cX10_does 79 = .ok (.getfield 34, 3) := by decide +kernel
theorem dX10_does_82 : decode cX10_does 82 = .ok (.iconst 1, 1) := by decide +kernel
theorem dX10_does_83 : decode cX10_does 83 = .ok (.iaload, 1) := by decide +kernel
theorem dX10_does_84 : decode cX10_does 84 = .ok (.invokevirtual 100, 3) := by decide +kernel
theorem dX10_does_87 : decode cX10_does 87 = .ok (.ireturn, 1) := by decide +kernel
theorem dX10_does_88 : decode cX10_does 88 = .ok (.aload_n 0, 1) := by decide +kernel
theorem dX10_does_89 : decode cX10_does 89 = .ok (.aload_n 0, 1) := by decide +kernel
theorem dX10_does_90 : decode cX10_does 90 = .ok (.getfield 34, 3) := by decide +kernel
theorem dX10_does_93 : decode cX10_does 93 = .ok (.iconst 0, 1) := by decide +kernel
theorem dX10_does_94 : decode cX10_does 94 = .ok (.iaload, 1) := by decide +kernel
theorem dX10_does_95 : decode cX10_does 95 = .ok (.invokevirtual 103, 3) := by decide +kernel
theorem dX10_does_98 : decode cX10_does 98 = .ok (.ireturn, 1) := by decide +kernel
theorem dX10_does_99 : decode cX10_does 99 = .ok (.aload_n 0, 1) := by decide +kernel
theorem dX10_does_100 : decode cX10_does 100 = .ok (.aload_n 0, 1) := by decide +kernel
theorem dX10_does_101 : decode cX10_does 101 = .ok (.getfield 34, 3) := by decide +kernel
theorem dX10_does_104 : decode cX10_does 104 = .ok (.iconst 0, 1) := by decide +kernel
theorem dX10_does_105 : decode cX10_does 105 = .ok (.iaload, 1) := by decide +kernel
theorem dX10_does_106 : decode cX10_does 106 = .ok (.aload_n 0, 1) := by decide +kernel
theorem dX10_does_107 : decode cX10_does 107 = .ok (.getfield 34, 3) := by decide +kernel
theorem dX10_does_110 : decode cX10_does 110 = .ok (.iconst 1, 1) := by decide +kernel
theorem dX10_does_111 : decode cX10_does 111 = .ok (.iaload, 1) := by decide +kernel
theorem dX10_does_112 : decode cX10_does 112 = .ok (.invokevirtual 106, 3) := by decide +kernel
theorem dX10_does_115 : decode cX10_does 115 = .ok (.ireturn, 1) := by decide +kernel
theorem dX10_does_116 : decode cX10_does 116 = .ok (.aload_n 0, 1) := by decide +kernel
theorem dX10_does_117 : decode cX10_does 117 = .ok (.aload_n 0, 1) := by decide +kernel
theorem dX10_does_118 : decode cX10_does 118 = .ok (.getfield 34, 3) := by decide +kernel
theorem dX10_does_121 : decode cX10_does 121 = .ok (.iconst 0, 1) := by decide +kernel
theorem dX10_does_122 : decode cX10_does 122 = .ok (.iaload, 1) := by decide +kernel
theorem dX10_does_123 : decode cX10_does 123 = .ok (.invokevirtual 161, 3) := by decide +kernel
theorem dX10_does_126 : decode cX10_does 126 = .ok (.ireturn, 1) := by decide +kernel
theorem dX10_doesAll_0 : decode cX10_doesAll 0 = .ok (.iconst 0, 1) := by decide +kernel
theorem dX10_doesAll_1 : decode cX10_doesAll 1 = .ok (.istore_n 1, 1) := by decide +kernel
theorem dX10_doesAll_2 : decode cX10_doesAll 2 = .ok (.aload_n 0, 1) := by decide +kernel
theorem dX10_doesAll_3 : decode cX10_doesAll 3 = .ok (.iconst 0, 1) := by decide +kernel
theorem dX10_doesAll_4 : decode cX10_doesAll 4 = .ok (.putfield 209, 3) := by decide +kernel
theorem dX10_doesAll_7 : decode cX10_doesAll 7 = .ok (.aload_n 0, 1) := by decide +kernel
theorem dX10_doesAll_8 : decode cX10_doesAll 8 = .ok (.bipush (-4), 2) := by decide +kernel
theorem dX10_doesAll_10 : decode cX10_doesAll 10 = .ok (.putfield 212, 3) := by decide +kernel
theorem dX10_doesAll_13 : decode cX10_doesAll 13 = .ok (.iload_n 1, 1) := by decide +kernel
theorem dX10_doesAll_14 : decode cX10_doesAll 14 = .ok (.aload_n 0, 1) := by decide +kernel
theorem dX10_doesAll_15 : decode cX10_doesAll 15 = .ok (.getfield 194, 3) := by decide +kernel
theorem dX10_doesAll_18 : decode cX10_doesAll 18 = .ok (.if_icmp .ge 52, 3) := by decide +kernel
theorem dX10_doesAll_21 : decode cX10_doesAll 21 = .ok (.aload_n 0, 1) := by decide +kernel
theorem dX10_doesAll_22 : decode cX10_doesAll 22 = .ok (.iload_n 1, 1) := by decide +kernel
theorem dX10_doesAll_23 : decode cX10_doesAll 23 = .ok (.putfield 215, 3) := by decide +kernel
theorem dX10_doesAll_26 : decode cX10_doesAll 26 = .ok (.aload_n 0, 1) := by decide +kernel
theorem dX10_doesAll_27 : decode cX10_doesAll 27 = .ok (.iload_n 1, 1) := by decide +kernel
theorem dX10_doesAll_28 : decode cX10_doesAll 28 = .ok (.invokevirtual 218, 3) := by decide +kernel
theorem dX10_doesAll_31 : decode cX10_doesAll 31 = .ok (.ifCond .ne 5, 3) := by decide +kernel
theorem dX10_doesAll_34 : decode cX10_doesAll 34 = .ok (.iconst 1, 1) := by decide +kernel
theorem dX10_doesAll_35 : decode cX10_doesAll 35 = .ok (.ireturn, 1) := by decide +kernel
theorem dX10_doesAll_36 : decode cX10_doesAll 36 = .ok (.aload_n 0, 1) := by decide +kernel
theorem dX10_doesAll_37 : decode cX10_doesAll 37 = .ok (.invokevirtual 221, 3) := by decide +kernel
theorem dX10_doesAll_40 : decode cX10_doesAll 40 = .ok (.istore_n 2, 1) := by decide +kernel
theorem dX10_doesAll_41 : decode cX10_doesAll 41 = .ok (.iload_n 2, 1) := by decide +kernel
theorem dX10_doesAll_42 : decode cX10_doesAll 42 = .ok (.ifCond .ge 10, 3) := by decide +kernel
theorem dX10_doesAll_45 : decode cX10_doesAll 45 = .ok (.aload_n 0, 1) := by decide +kernel
theorem dX10_doesAll_46 : decode cX10_doesAll 46 = .ok (.iload_n 2, 1) := by decide +kernel
theorem dX10_doesAll_47 : decode cX10_doesAll 47 = .ok (.putfield 212, 3) := by decide +kernel
theorem dX10_doesAll_50 : decode cX10_doesAll 50 = .ok (.iconst 2, 1) := by decide +kernel
theorem dX10_doesAll_51 : decode cX10_doesAll 51 = .ok (.ireturn, 1) := by decide +kernel
theorem dX10_doesAll_52 : decode cX10_doesAll 52 = .ok (.aload_n 0, 1) := by decide +kernel
theorem dX10_doesAll_53 : decode cX10_doesAll 53 = .ok (.dup, 1) := by decide +kernel
theorem dX10_doesAll_54 : decode cX10_doesAll 54 = .ok (.getfield 209, 3) := by decide +kernel
theorem dX10_doesAll_57 : decode cX10_doesAll 57 = .ok (.iconst 1, 1) := by decide +kernel
theorem dX10_doesAll_58 : decode cX10_doesAll 58 = .ok (.iadd, 1) := by decide +kernel
theorem dX10_doesAll_59 : decode cX10_doesAll 59 = .ok (.putfield 209, 3) := by decide +kernel
theorem dX10_doesAll_62 : decode cX10_doesAll 62 = .ok (.aload_n 0, 1) := by decide +kernel
theorem dX10_doesAll_63 : decode cX10_doesAll 63 = .ok (.getfield 197, 3) := by decide +kernel
theorem dX10_doesAll_66 : decode cX10_doesAll 66 = .ok (.istore_n 1, 1) := by decide +kernel
theorem dX10_doesAll_67 : decode cX10_doesAll 67 = .ok (.goto (-54), 3) := by decide +kernel
theorem dX10_doesAll_70 : decode cX10_doesAll 70 = .ok (.iconst 0, 1) := by decide +kernel
theorem dX10_doesAll_71 : decode cX10_doesAll 71 = .ok (.ireturn, 1) := by decide +kernel
theorem dX10_looks_0 : decode cX10_looks 0 = .ok (.aload_n 0, 1) := by decide +kernel
theorem dX10_looks_1 : decode cX10_looks 1 = .ok (.getfield 7, 3) := by decide +kernel
theorem dX10_looks_4 : decode cX10_looks 4 = .ok (.iconst 0, 1) := by decide +kernel
theorem dX10_looks_5 : decode cX10_looks 5 = .ok (.aload_n 0, 1) := by decide +kernel
theorem dX10_looks_6 : decode cX10_looks 6 = .ok (.getfield 19, 3) := by decide +kernel
theorem dX10_looks_9 : decode cX10_looks 9 = .ok (.iconst 0, 1) := by decide +kernel
theorem dX10_looks_10 : decode cX10_looks 10 = .ok (.invokestatic 37, 3) := by decide +kernel
theorem dX10_looks_13 : decode cX10_looks 13 = .ok (.aload_n 0, 1) := by decide +kernel
theorem dX10_looks_14 : decode cX10_looks 14 = .ok (.invokevirtual 224, 3) := by decide +kernel
theorem dX10_looks_17 : decode cX10_looks 17 = .ok (.istore_n 1, 1) := by decide +kernel
theorem dX10_looks_18 : decode cX10_looks 18 = .ok (.aload_n 0, 1) := by decide +kernel
theorem dX10_looks_19 : decode cX10_looks 19 = .ok (.getfield 19, 3) := by decide +kernel
theorem dX10_looks_22 : decode cX10_looks 22 = .ok (.iconst 0, 1) := by decide +kernel
theorem dX10_looks_23 : decode cX10_looks 23 = .ok (.aload_n 0, 1) := by decide +kernel
theorem dX10_looks_24 : decode cX10_looks 24 = .ok (.getfield 7, 3) := by decide +kernel
theorem dX10_looks_27 : decode cX10_looks 27 = .ok (.iconst 0, 1) := by decide +kernel
theorem dX10_looks_28 : decode cX10_looks 28 = .ok (.invokestatic 37, 3) := by decide +kernel
theorem dX10_looks_31 : decode cX10_looks 31 = .ok (.iload_n 1, 1) := by decide +kernel
theorem dX10_looks_32 : decode cX10_looks 32 = .ok (.ireturn, 1) := by decide +kernel
theorem dX10_fault_0 : decode cX10_fault 0 = .ok (.iload_n 1, 1) := by decide +kernel
theorem dX10_fault_1 : decode cX10_fault 1 = .ok (.iconst 0, 1) := by decide +kernel
theorem dX10_fault_2 : decode cX10_fault 2 = .ok (.iconst 2, 1) := by decide +kernel
theorem dX10_fault_3 : decode cX10_fault 3 = .ok (.invokestatic 45, 3) := by decide +kernel
theorem dX10_fault_6 : decode cX10_fault 6 = .ok (.ifCond .ne 5, 3) := by decide +kernel
theorem dX10_fault_9 : decode cX10_fault 9 = .ok (.iconst (-1), 1) := by decide +kernel
theorem dX10_fault_10 : decode cX10_fault 10 = .ok (.ireturn, 1) := by decide +kernel
theorem dX10_fault_11 : decode cX10_fault 11 = .ok (.aload_n 0, 1) := by decide +kernel
theorem dX10_fault_12 : decode cX10_fault 12 = .ok (.invokevirtual 227, 3) := by decide +kernel
theorem dX10_fault_15 : decode cX10_fault 15 = .ok (.istore_n 2, 1) := by decide +kernel
theorem dX10_fault_16 : decode cX10_fault 16 = .ok (.iload_n 2, 1) := by decide +kernel
theorem dX10_fault_17 : decode cX10_fault 17 = .ok (.ifCond .ne 8, 3) := by decide +kernel
theorem dX10_fault_20 : decode cX10_fault 20 = .ok (.bipush (-4), 2) := by decide +kernel
theorem dX10_fault_22 : decode cX10_fault 22 = .ok (.goto 27, 3) := by decide +kernel
theorem dX10_fault_25 : decode cX10_fault 25 = .ok (.iload_n 1, 1) := by decide +kernel
theorem dX10_fault_26 : decode cX10_fault 26 = .ok (.ifCond .ne 10, 3) := by decide +kernel
theorem dX10_fault_29 : decode cX10_fault 29 = .ok (.aload_n 0, 1) := by decide +kernel
theorem dX10_fault_30 : decode cX10_fault 30 = .ok (.getfield 215, 3) := by decide +kernel
theorem dX10_fault_33 : decode cX10_fault 33 = .ok (.goto 16, 3) := by decide +kernel
theorem dX10_fault_36 : decode cX10_fault 36 = .ok (.iload_n 1, 1) := by decide +kernel
theorem dX10_fault_37 : decode cX10_fault 37 = .ok (.iconst 1, 1) := by decide +kernel
theorem dX10_fault_38 : decode cX10_fault 38 = .ok (.if_icmp .ne 7, 3) := by decide +kernel
theorem dX10_fault_41 : decode cX10_fault 41 = .ok (.iload_n 2, 1) := by decide +kernel
theorem dX10_fault_42 : decode cX10_fault 42 = .ok (.goto 7, 3) := by decide +kernel
theorem dX10_fault_45 : decode cX10_fault 45 = .ok (.aload_n 0, 1) := by decide +kernel
theorem dX10_fault_46 : decode cX10_fault 46 = .ok (.getfield 212, 3) := by decide +kernel
theorem dX10_fault_49 : decode cX10_fault 49 = .ok (.ireturn, 1) := by decide +kernel
theorem dX10_play_0 : decode cX10_play 0 = .ok (.aload_n 0, 1) := by decide +kernel
theorem dX10_play_1 : decode cX10_play 1 = .ok (.invokevirtual 227, 3) := by decide +kernel
theorem dX10_play_4 : decode cX10_play 4 = .ok (.ifCond .eq 6, 3) := by decide +kernel
theorem dX10_play_7 : decode cX10_play 7 = .ok (.bipush (-2), 2) := by decide +kernel
theorem dX10_play_9 : decode cX10_play 9 = .ok (.ireturn, 1) := by decide +kernel
theorem dX10_play_10 : decode cX10_play 10 = .ok (.aload_n 0, 1) := by decide +kernel
theorem dX10_play_11 : decode cX10_play 11 = .ok (.invokevirtual 64, 3) := by decide +kernel
theorem dX10_play_14 : decode cX10_play 14 = .ok (.aload_n 0, 1) := by decide +kernel
theorem dX10_play_15 : decode cX10_play 15 = .ok (.invokevirtual 224, 3) := by decide +kernel
theorem dX10_play_18 : decode cX10_play 18 = .ok (.istore_n 1, 1) := by decide +kernel
theorem dX10_play_19 : decode cX10_play 19 = .ok (.aload_n 0, 1) := by decide +kernel
theorem dX10_play_20 : decode cX10_play 20 = .ok (.iload_n 1, 1) := by decide +kernel
theorem dX10_play_21 : decode cX10_play 21 = .ok (.ifCond .ne 10, 3) := by decide +kernel
theorem dX10_play_24 : decode cX10_play 24 = .ok (.aload_n 0, 1) := by decide +kernel
theorem dX10_play_25 : decode cX10_play 25 = .ok (.getfield 209, 3) := by decide +kernel
theorem dX10_play_28 : decode cX10_play 28 = .ok (.goto 5, 3) := by decide +kernel
theorem dX10_play_31 : decode cX10_play 31 = .ok (.bipush (-2), 2) := by decide +kernel
theorem dX10_play_33 : decode cX10_play 33 = .ok (.invokevirtual 67, 3) := by decide +kernel
theorem dX10_play_36 : decode cX10_play 36 = .ok (.ireturn, 1) := by decide +kernel
end
section
/-! THE LAYER z_: a world is cells by their numbers; a walk speaks of numbers alone -/
abbrev z_K : Type := (Nat × Nat) ⊕ (Nat × List (Option Nat))
abbrev z_G : Type := va_G × (ClassId × (ClassId × ClassId))
abbrev z_S : Type := Nat → Nat → Int32
abbrev z_En : Type := Program × Launch × Env × Room × State × MethodId × Array Value × List Frame × Method × Code × (State → Prop)
def z_fs (ad : Nat → Nat) (x : Nat → Int32) : Nat → List (Option Nat) → List Value
  | _, [] => []
  | j, none :: fs => .int (x j) :: z_fs ad x (j + 1) fs
  | j, some r :: fs => .ref (ad r) :: z_fs ad x (j + 1) fs
def z_E (G : z_G) (ad : Nat → Nat) (x : Nat → Int32) (k : z_K) : va_E := match k with
  | .inl (0, n) => .inl (G.2.1, n, .inl x)
  | .inl (1, n) => .inl (G.2.2.1, n, .inl x)
  | .inl (t + 2, n) => .inl (G.2.2.2, n, .inr (.inr (.inr (.inr (fun j => some (ad (t + 38 * j)))))))
  | .inr (c, fs) => .inr (c, z_fs ad x 0 fs)
def z_tys (G : z_G) : List (ClassId × FieldType) := [(G.2.1, .int), (G.2.2.1, .char), (G.2.2.2, .object "PaperRounds$Town")]
def z_nest : List (String × Nat × MethodName × String) := [
  ("PaperRounds", 9, ⟨"PaperRounds$Town", "<init>", "()V"⟩, "PaperRounds"),
  ("PaperRounds$Town", 34, ⟨"PaperRounds$Houses", "<init>", "()V"⟩, "PaperRounds"),
  ("PaperRounds$Town", 41, ⟨"PaperRounds$Pauses", "<init>", "()V"⟩, "PaperRounds"),
  ("PaperRounds$Town", 48, ⟨"PaperRounds$Carriers", "<init>", "()V"⟩, "PaperRounds"),
  ("PaperRounds$History", 24, ⟨"PaperRounds$Town", "<init>", "()V"⟩, "PaperRounds"),
  ("PaperRounds", 25, ⟨"PaperRounds$Walk", "<init>", "()V"⟩, "PaperRounds"),
  ("PaperRounds", 32, ⟨"PaperRounds$Text", "<init>", "()V"⟩, "PaperRounds"),
  ("PaperRounds", 39, ⟨"PaperRounds$Trial", "<init>", "()V"⟩, "PaperRounds"),
  ("PaperRounds$Trial", 11, ⟨"PaperRounds$Town", "<init>", "()V"⟩, "PaperRounds"),
  ("PaperRounds$Town", 53, ⟨"PaperRounds", "copy", "([I[II)V"⟩, "PaperRounds"),
  ("PaperRounds$Streets", 40, ⟨"PaperRounds", "copy", "([I[II)V"⟩, "PaperRounds"),
  ("PaperRounds$Houses", 58, ⟨"PaperRounds", "copy", "([I[II)V"⟩, "PaperRounds"),
  ("PaperRounds$Pauses", 25, ⟨"PaperRounds", "copy", "([I[II)V"⟩, "PaperRounds"),
  ("PaperRounds$Carriers", 37, ⟨"PaperRounds", "copy", "([I[II)V"⟩, "PaperRounds"),
  ("PaperRounds$Streets", 44, ⟨"PaperRounds", "within", "(III)Z"⟩, "PaperRounds"),
  ("PaperRounds$Town", 74, ⟨"PaperRounds", "within", "(III)Z"⟩, "PaperRounds"),
  ("PaperRounds$Houses", 62, ⟨"PaperRounds", "within", "(III)Z"⟩, "PaperRounds"),
  ("PaperRounds$Carriers", 41, ⟨"PaperRounds", "within", "(III)Z"⟩, "PaperRounds"),
  ("PaperRounds$Text", 30, ⟨"PaperRounds", "within", "(III)Z"⟩, "PaperRounds")]
def z_Kp (G : z_G) (U : State) : Prop := va_K G.1 vwCl (z_tys G) U ∧ ∀ q ∈ z_nest, va_Nw (.methodLinkNest q.1 q.2.1 q.2.2.1 q.2.2.2) U
theorem z_Kp.warm {G : z_G} {s U : State} (hW : s.WarmedH U.vm) (h : z_Kp G s) : z_Kp G U := ⟨va_K.moved hW.alike h.1, fun q hq => va_Nw.warmM hW (h.2 q hq)⟩
theorem z_Kp.calling {G : z_G} {U : State} {g : JFrame} {mk : MethodId} {a : Array Value} (h : z_Kp G U) : z_Kp G (U.calling g mk a) := ⟨va_K.moved (u := U) (U := U.calling g mk a) (Vm.Alike.refl U.vm) h.1, fun q hq => va_Nw.same rfl rfl (h.2 q hq)⟩
/-- the world as a list -/
def z_W (G : z_G) (lay : Nat → z_K) (N : Nat) (ad : Nat → Nat) (σ : z_S) : va_W := (List.range N).map (fun i => (ad i, z_E G ad (σ i) (lay i)))
def z_P (G : z_G) (lay : Nat → z_K) (N : Nat) (ad : Nat → Nat) (σ : z_S) (H : Heap) : Prop := ∀ i, i < N → va_at G.1 vwCl (ad i, z_E G ad (σ i) (lay i)) H
def z_D (A : Nat → Prop) (N : Nat) (ad : Nat → Nat) : Prop := (∀ i j, i < N → j < N → ad i = ad j → i = j) ∧ ∀ i, i < N → A (ad i)
def z_A (N : Nat) (ad : Nat → Nat) (sz : Nat) : Nat → Prop := fun q => (∃ i, i < N ∧ q = ad i) ∨ sz ≤ q
theorem z_Wat {G : z_G} {lay : Nat → z_K} {N : Nat} {ad : Nat → Nat} {σ : z_S} {i : Nat} (h : i < N) : (z_W G lay N ad σ)[i]? = some (ad i, z_E G ad (σ i) (lay i)) := by
  simp [z_W, h]
theorem z_Wof {G : z_G} {lay : Nat → z_K} {N : Nat} {ad : Nat → Nat} {σ : z_S} {i : Nat} {q : Nat × va_E} (h : (z_W G lay N ad σ)[i]? = some q) : i < N ∧ q = (ad i, z_E G ad (σ i) (lay i)) := by
  have hl := (List.getElem?_eq_some_iff.mp h).1
  have hN : i < N := by simpa [z_W] using hl
  rw [z_Wat hN] at h
  exact ⟨hN, (Option.some.inj h).symm⟩
theorem z_P.w {G : z_G} {lay : Nat → z_K} {N : Nat} {ad : Nat → Nat} {σ : z_S} {H : Heap} (h : z_P G lay N ad σ H) : va_P G.1 vwCl (z_W G lay N ad σ) H := by
  intro k q hk
  obtain ⟨hN, rfl⟩ := z_Wof hk
  exact h k hN
theorem z_P.of {G : z_G} {lay : Nat → z_K} {N : Nat} {ad : Nat → Nat} {σ : z_S} {H : Heap} (h : va_P G.1 vwCl (z_W G lay N ad σ) H) : z_P G lay N ad σ H := fun i hi => h i _ (z_Wat hi)
theorem z_D.w {G : z_G} {lay : Nat → z_K} {N : Nat} {ad : Nat → Nat} {σ : z_S} {A : Nat → Prop} (h : z_D A N ad) : va_D A (z_W G lay N ad σ) := by
  refine ⟨fun i j p q hi hj e => ?_, fun k q hk => ?_⟩
  · obtain ⟨h1, rfl⟩ := z_Wof hi
    obtain ⟨h2, rfl⟩ := z_Wof hj
    exact h.1 i j h1 h2 e
  · obtain ⟨h1, rfl⟩ := z_Wof hk
    exact h.2 k h1
theorem z_Wset {G : z_G} {lay : Nat → z_K} {N : Nat} {ad : Nat → Nat} {σ σ' : z_S} {i : Nat} {e : va_E} (hi : i < N) (he : e = z_E G ad (σ' i) (lay i)) (ho : ∀ a, a ≠ i → σ' a = σ a) : (z_W G lay N ad σ).set i (ad i, e) = z_W G lay N ad σ' := by
  apply List.ext_getElem?
  intro k
  by_cases hk : k < N
  · by_cases hki : k = i
    · subst hki
      rw [List.getElem?_set_self (by simpa [z_W] using hk), z_Wat hk, he]
    · rw [List.getElem?_set_ne (Ne.symm hki), z_Wat hk, z_Wat hk, ho k hki]
  · rw [List.getElem?_eq_none (by simpa [z_W] using hk), List.getElem?_eq_none (by simpa [z_W] using hk)]
/-- one number of one cell -/
def z_u (σ : z_S) (i j : Nat) (v : Int32) : z_S := fun a => if a = i then (fun b => if b = j then v else σ a b) else σ a
theorem z_u_i (σ : z_S) (i j : Nat) (v : Int32) : z_u σ i j v i = upd (σ i) j v := by
  funext b
  simp [z_u, upd]
theorem z_u_o {σ : z_S} {i j : Nat} {v : Int32} {a : Nat} (h : a ≠ i) : z_u σ i j v a = σ a := by simp [z_u, h]
theorem z_fs_get {ad : Nat → Nat} {x : Nat → Int32} : ∀ (fs : List (Option Nat)) (b j : Nat), fs[j]? = some none → (z_fs ad x b fs)[j]? = some (.int (x (b + j)))
  | none :: fs, b, 0, _ => by simp [z_fs]
  | some r :: fs, b, 0, h => by simp at h
  | none :: fs, b, j + 1, h => by
    simp only [z_fs, List.getElem?_cons_succ] at h ⊢
    rw [z_fs_get fs (b + 1) j h, show b + 1 + j = b + (j + 1) from by omega]
  | some r :: fs, b, j + 1, h => by
    simp only [z_fs, List.getElem?_cons_succ] at h ⊢
    rw [z_fs_get fs (b + 1) j h, show b + 1 + j = b + (j + 1) from by omega]
theorem z_fs_getr {ad : Nat → Nat} {x : Nat → Int32} : ∀ (fs : List (Option Nat)) (b j r : Nat), fs[j]? = some (some r) → (z_fs ad x b fs)[j]? = some (.ref (ad r))
  | some r :: fs, b, 0, r', h => by
    simp at h
    simp [z_fs, h]
  | none :: fs, b, 0, r', h => by simp at h
  | none :: fs, b, j + 1, r', h => by
    simp only [z_fs, List.getElem?_cons_succ] at h ⊢
    exact z_fs_getr fs (b + 1) j r' h
  | some r :: fs, b, j + 1, r', h => by
    simp only [z_fs, List.getElem?_cons_succ] at h ⊢
    exact z_fs_getr fs (b + 1) j r' h
theorem z_fs_keep {ad : Nat → Nat} {x : Nat → Int32} {v : Int32} : ∀ (fs : List (Option Nat)) (b j : Nat), j < b → z_fs ad (upd x j v) b fs = z_fs ad x b fs
  | [], b, j, _ => rfl
  | none :: fs, b, j, h => by
    simp only [z_fs]
    rw [z_fs_keep fs (b + 1) j (by omega)]
    have hb : b ≠ j := by omega
    simp [upd, hb]
  | some r :: fs, b, j, h => by
    simp only [z_fs]
    rw [z_fs_keep fs (b + 1) j (by omega)]
theorem z_fs_set {ad : Nat → Nat} {x : Nat → Int32} {v : Int32} : ∀ (fs : List (Option Nat)) (b j : Nat), fs[j]? = some none → (z_fs ad x b fs).set j (.int v) = z_fs ad (upd x (b + j) v) b fs
  | none :: fs, b, 0, _ => by
    simp only [z_fs, List.set_cons_zero, Nat.add_zero]
    rw [z_fs_keep fs (b + 1) b (by omega)]
    simp [upd]
  | some r :: fs, b, 0, h => by simp at h
  | none :: fs, b, j + 1, h => by
    simp only [z_fs, List.set_cons_succ, List.getElem?_cons_succ] at h ⊢
    rw [z_fs_set fs (b + 1) j h, show b + 1 + j = b + (j + 1) from by omega]
    have hb : b ≠ b + (j + 1) := by omega
    simp [upd, hb]
  | some r :: fs, b, j + 1, h => by
    simp only [z_fs, List.set_cons_succ, List.getElem?_cons_succ] at h ⊢
    rw [z_fs_set fs (b + 1) j h, show b + 1 + j = b + (j + 1) from by omega]
theorem z_fs_len {ad : Nat → Nat} {x : Nat → Int32} : ∀ (fs : List (Option Nat)) (b : Nat), (z_fs ad x b fs).length = fs.length
  | [], b => rfl
  | none :: fs, b => by simp [z_fs, z_fs_len fs]
  | some r :: fs, b => by simp [z_fs, z_fs_len fs]
/-- the machine at a frame, over any heap that holds the world -/
def ZW (E : z_En) (G : z_G) (A : Nat → Prop) (nL : Nat) (lay : Nat → z_K) (N : Nat) (ad : Nat → Nat) (pc : Nat) (lv : List (Nat × Value)) (st : List Value) (σ : z_S) : Prop :=
  match E with
  | (p, l, e, R, s, m, args, below, meth, c, Q) => ∀ (H : Heap) (locs : List Loc) (ls : Array Slot), z_P G lay N ad σ H → z_D A N ad → va_S A s.heap H locs → lv_has ls nL lv → W p l e R s m args below meth c H locs 0 0 Q (F0 m pc ls st)
def zB (E : z_En) (G : z_G) (A : Nat → Prop) (cc : ByteArray) (nL : Nat) (own : String) (R0 : Room) : Prop :=
  match E with
  | (p, l, e, R, s, m, args, below, meth, c, Q) => p.tables.exec = Jvm.exec ∧ c.code = cc ∧ c.maxLocals = nL ∧ s.vm.findClass own = some m.cls ∧ (∀ w ∈ wsL_law, w.before args s = true) ∧ z_Kp G s ∧ (∀ q, s.heap.size ≤ q → A q) ∧ R = R0
def z_ck {O : Type} (c : Prop) [Decidable c] (X : Option O) : Option O := if c then X else none
theorem z_ckE {O : Type} {c : Prop} [Decidable c] {X : Option O} {o : O} (h : z_ck c X = some o) : c ∧ X = some o := by
  unfold z_ck at h
  by_cases hc : c
  · rw [if_pos hc] at h
    exact ⟨hc, h⟩
  · rw [if_neg hc] at h
    cases h
theorem z_ckT {O : Type} {c : Prop} [Decidable c] {X : Option O} (h : c) : z_ck c X = X := if_pos h
def z_let {α O : Type} (v : α) (k : α → Option O) : Option O := k v
theorem z_letE {α O : Type} {v : α} {k : α → Option O} {o : O} (h : z_let v k = some o) : ∃ x, x = v ∧ k x = some o := ⟨v, rfl, h⟩
theorem z_bindE {α O : Type} {v : Option α} {k : α → Option O} {o : O} (h : v.bind k = some o) : ∃ x, v = some x ∧ k x = some o := by
  cases v with
  | none => cases h
  | some x => exact ⟨x, rfl, h⟩
def z_Fu : Nat := 4096
def z_lp1 {S1 O : Type} (body : (S1 → Option O) → S1 → Option O) : Nat → S1 → Option O
  | 0 => fun _ => none
  | n + 1 => fun x1 => body (z_lp1 body n) x1
theorem z_lpr1 {S1 O : Type} {body : (S1 → Option O) → S1 → Option O} {g : S1 → Prop} {o : O} (hs : ∀ (k : S1 → Option O) (x1 : S1), (∀ (y1 : S1), k y1 = some o → g y1) → body k x1 = some o → g x1) : ∀ (n : Nat) (x1 : S1), z_lp1 body n x1 = some o → g x1
  | 0, x1, h => by cases h
  | n + 1, x1, h => hs (z_lp1 body n) x1 (fun y1 hk => z_lpr1 hs n y1 hk) h
def z_lp2 {S1 S2 O : Type} (body : (S1 → S2 → Option O) → S1 → S2 → Option O) : Nat → S1 → S2 → Option O
  | 0 => fun _ _ => none
  | n + 1 => fun x1 x2 => body (z_lp2 body n) x1 x2
theorem z_lpr2 {S1 S2 O : Type} {body : (S1 → S2 → Option O) → S1 → S2 → Option O} {g : S1 → S2 → Prop} {o : O} (hs : ∀ (k : S1 → S2 → Option O) (x1 : S1) (x2 : S2), (∀ (y1 : S1) (y2 : S2), k y1 y2 = some o → g y1 y2) → body k x1 x2 = some o → g x1 x2) : ∀ (n : Nat) (x1 : S1) (x2 : S2), z_lp2 body n x1 x2 = some o → g x1 x2
  | 0, x1, x2, h => by cases h
  | n + 1, x1, x2, h => hs (z_lp2 body n) x1 x2 (fun y1 y2 hk => z_lpr2 hs n y1 y2 hk) h
def z_lp3 {S1 S2 S3 O : Type} (body : (S1 → S2 → S3 → Option O) → S1 → S2 → S3 → Option O) : Nat → S1 → S2 → S3 → Option O
  | 0 => fun _ _ _ => none
  | n + 1 => fun x1 x2 x3 => body (z_lp3 body n) x1 x2 x3
theorem z_lpr3 {S1 S2 S3 O : Type} {body : (S1 → S2 → S3 → Option O) → S1 → S2 → S3 → Option O} {g : S1 → S2 → S3 → Prop} {o : O} (hs : ∀ (k : S1 → S2 → S3 → Option O) (x1 : S1) (x2 : S2) (x3 : S3), (∀ (y1 : S1) (y2 : S2) (y3 : S3), k y1 y2 y3 = some o → g y1 y2 y3) → body k x1 x2 x3 = some o → g x1 x2 x3) : ∀ (n : Nat) (x1 : S1) (x2 : S2) (x3 : S3), z_lp3 body n x1 x2 x3 = some o → g x1 x2 x3
  | 0, x1, x2, x3, h => by cases h
  | n + 1, x1, x2, x3, h => hs (z_lp3 body n) x1 x2 x3 (fun y1 y2 y3 hk => z_lpr3 hs n y1 y2 y3 hk) h
def z_lp4 {S1 S2 S3 S4 O : Type} (body : (S1 → S2 → S3 → S4 → Option O) → S1 → S2 → S3 → S4 → Option O) : Nat → S1 → S2 → S3 → S4 → Option O
  | 0 => fun _ _ _ _ => none
  | n + 1 => fun x1 x2 x3 x4 => body (z_lp4 body n) x1 x2 x3 x4
theorem z_lpr4 {S1 S2 S3 S4 O : Type} {body : (S1 → S2 → S3 → S4 → Option O) → S1 → S2 → S3 → S4 → Option O} {g : S1 → S2 → S3 → S4 → Prop} {o : O} (hs : ∀ (k : S1 → S2 → S3 → S4 → Option O) (x1 : S1) (x2 : S2) (x3 : S3) (x4 : S4), (∀ (y1 : S1) (y2 : S2) (y3 : S3) (y4 : S4), k y1 y2 y3 y4 = some o → g y1 y2 y3 y4) → body k x1 x2 x3 x4 = some o → g x1 x2 x3 x4) : ∀ (n : Nat) (x1 : S1) (x2 : S2) (x3 : S3) (x4 : S4), z_lp4 body n x1 x2 x3 x4 = some o → g x1 x2 x3 x4
  | 0, x1, x2, x3, x4, h => by cases h
  | n + 1, x1, x2, x3, x4, h => hs (z_lp4 body n) x1 x2 x3 x4 (fun y1 y2 y3 y4 hk => z_lpr4 hs n y1 y2 y3 y4 hk) h
def z_lp5 {S1 S2 S3 S4 S5 O : Type} (body : (S1 → S2 → S3 → S4 → S5 → Option O) → S1 → S2 → S3 → S4 → S5 → Option O) : Nat → S1 → S2 → S3 → S4 → S5 → Option O
  | 0 => fun _ _ _ _ _ => none
  | n + 1 => fun x1 x2 x3 x4 x5 => body (z_lp5 body n) x1 x2 x3 x4 x5
theorem z_lpr5 {S1 S2 S3 S4 S5 O : Type} {body : (S1 → S2 → S3 → S4 → S5 → Option O) → S1 → S2 → S3 → S4 → S5 → Option O} {g : S1 → S2 → S3 → S4 → S5 → Prop} {o : O} (hs : ∀ (k : S1 → S2 → S3 → S4 → S5 → Option O) (x1 : S1) (x2 : S2) (x3 : S3) (x4 : S4) (x5 : S5), (∀ (y1 : S1) (y2 : S2) (y3 : S3) (y4 : S4) (y5 : S5), k y1 y2 y3 y4 y5 = some o → g y1 y2 y3 y4 y5) → body k x1 x2 x3 x4 x5 = some o → g x1 x2 x3 x4 x5) : ∀ (n : Nat) (x1 : S1) (x2 : S2) (x3 : S3) (x4 : S4) (x5 : S5), z_lp5 body n x1 x2 x3 x4 x5 = some o → g x1 x2 x3 x4 x5
  | 0, x1, x2, x3, x4, x5, h => by cases h
  | n + 1, x1, x2, x3, x4, x5, h => hs (z_lp5 body n) x1 x2 x3 x4 x5 (fun y1 y2 y3 y4 y5 hk => z_lpr5 hs n y1 y2 y3 y4 y5 hk) h
def z_lp6 {S1 S2 S3 S4 S5 S6 O : Type} (body : (S1 → S2 → S3 → S4 → S5 → S6 → Option O) → S1 → S2 → S3 → S4 → S5 → S6 → Option O) : Nat → S1 → S2 → S3 → S4 → S5 → S6 → Option O
  | 0 => fun _ _ _ _ _ _ => none
  | n + 1 => fun x1 x2 x3 x4 x5 x6 => body (z_lp6 body n) x1 x2 x3 x4 x5 x6
theorem z_lpr6 {S1 S2 S3 S4 S5 S6 O : Type} {body : (S1 → S2 → S3 → S4 → S5 → S6 → Option O) → S1 → S2 → S3 → S4 → S5 → S6 → Option O} {g : S1 → S2 → S3 → S4 → S5 → S6 → Prop} {o : O} (hs : ∀ (k : S1 → S2 → S3 → S4 → S5 → S6 → Option O) (x1 : S1) (x2 : S2) (x3 : S3) (x4 : S4) (x5 : S5) (x6 : S6), (∀ (y1 : S1) (y2 : S2) (y3 : S3) (y4 : S4) (y5 : S5) (y6 : S6), k y1 y2 y3 y4 y5 y6 = some o → g y1 y2 y3 y4 y5 y6) → body k x1 x2 x3 x4 x5 x6 = some o → g x1 x2 x3 x4 x5 x6) : ∀ (n : Nat) (x1 : S1) (x2 : S2) (x3 : S3) (x4 : S4) (x5 : S5) (x6 : S6), z_lp6 body n x1 x2 x3 x4 x5 x6 = some o → g x1 x2 x3 x4 x5 x6
  | 0, x1, x2, x3, x4, x5, x6, h => by cases h
  | n + 1, x1, x2, x3, x4, x5, x6, h => hs (z_lp6 body n) x1 x2 x3 x4 x5 x6 (fun y1 y2 y3 y4 y5 y6 hk => z_lpr6 hs n y1 y2 y3 y4 y5 y6 hk) h
def z_lp7 {S1 S2 S3 S4 S5 S6 S7 O : Type} (body : (S1 → S2 → S3 → S4 → S5 → S6 → S7 → Option O) → S1 → S2 → S3 → S4 → S5 → S6 → S7 → Option O) : Nat → S1 → S2 → S3 → S4 → S5 → S6 → S7 → Option O
  | 0 => fun _ _ _ _ _ _ _ => none
  | n + 1 => fun x1 x2 x3 x4 x5 x6 x7 => body (z_lp7 body n) x1 x2 x3 x4 x5 x6 x7
theorem z_lpr7 {S1 S2 S3 S4 S5 S6 S7 O : Type} {body : (S1 → S2 → S3 → S4 → S5 → S6 → S7 → Option O) → S1 → S2 → S3 → S4 → S5 → S6 → S7 → Option O} {g : S1 → S2 → S3 → S4 → S5 → S6 → S7 → Prop} {o : O} (hs : ∀ (k : S1 → S2 → S3 → S4 → S5 → S6 → S7 → Option O) (x1 : S1) (x2 : S2) (x3 : S3) (x4 : S4) (x5 : S5) (x6 : S6) (x7 : S7), (∀ (y1 : S1) (y2 : S2) (y3 : S3) (y4 : S4) (y5 : S5) (y6 : S6) (y7 : S7), k y1 y2 y3 y4 y5 y6 y7 = some o → g y1 y2 y3 y4 y5 y6 y7) → body k x1 x2 x3 x4 x5 x6 x7 = some o → g x1 x2 x3 x4 x5 x6 x7) : ∀ (n : Nat) (x1 : S1) (x2 : S2) (x3 : S3) (x4 : S4) (x5 : S5) (x6 : S6) (x7 : S7), z_lp7 body n x1 x2 x3 x4 x5 x6 x7 = some o → g x1 x2 x3 x4 x5 x6 x7
  | 0, x1, x2, x3, x4, x5, x6, x7, h => by cases h
  | n + 1, x1, x2, x3, x4, x5, x6, x7, h => hs (z_lp7 body n) x1 x2 x3 x4 x5 x6 x7 (fun y1 y2 y3 y4 y5 y6 y7 hk => z_lpr7 hs n y1 y2 y3 y4 y5 y6 y7 hk) h
def z_lp8 {S1 S2 S3 S4 S5 S6 S7 S8 O : Type} (body : (S1 → S2 → S3 → S4 → S5 → S6 → S7 → S8 → Option O) → S1 → S2 → S3 → S4 → S5 → S6 → S7 → S8 → Option O) : Nat → S1 → S2 → S3 → S4 → S5 → S6 → S7 → S8 → Option O
  | 0 => fun _ _ _ _ _ _ _ _ => none
  | n + 1 => fun x1 x2 x3 x4 x5 x6 x7 x8 => body (z_lp8 body n) x1 x2 x3 x4 x5 x6 x7 x8
theorem z_lpr8 {S1 S2 S3 S4 S5 S6 S7 S8 O : Type} {body : (S1 → S2 → S3 → S4 → S5 → S6 → S7 → S8 → Option O) → S1 → S2 → S3 → S4 → S5 → S6 → S7 → S8 → Option O} {g : S1 → S2 → S3 → S4 → S5 → S6 → S7 → S8 → Prop} {o : O} (hs : ∀ (k : S1 → S2 → S3 → S4 → S5 → S6 → S7 → S8 → Option O) (x1 : S1) (x2 : S2) (x3 : S3) (x4 : S4) (x5 : S5) (x6 : S6) (x7 : S7) (x8 : S8), (∀ (y1 : S1) (y2 : S2) (y3 : S3) (y4 : S4) (y5 : S5) (y6 : S6) (y7 : S7) (y8 : S8), k y1 y2 y3 y4 y5 y6 y7 y8 = some o → g y1 y2 y3 y4 y5 y6 y7 y8) → body k x1 x2 x3 x4 x5 x6 x7 x8 = some o → g x1 x2 x3 x4 x5 x6 x7 x8) : ∀ (n : Nat) (x1 : S1) (x2 : S2) (x3 : S3) (x4 : S4) (x5 : S5) (x6 : S6) (x7 : S7) (x8 : S8), z_lp8 body n x1 x2 x3 x4 x5 x6 x7 x8 = some o → g x1 x2 x3 x4 x5 x6 x7 x8
  | 0, x1, x2, x3, x4, x5, x6, x7, x8, h => by cases h
  | n + 1, x1, x2, x3, x4, x5, x6, x7, x8, h => hs (z_lp8 body n) x1 x2 x3 x4 x5 x6 x7 x8 (fun y1 y2 y3 y4 y5 y6 y7 y8 hk => z_lpr8 hs n y1 y2 y3 y4 y5 y6 y7 y8 hk) h
def z_lp9 {S1 S2 S3 S4 S5 S6 S7 S8 S9 O : Type} (body : (S1 → S2 → S3 → S4 → S5 → S6 → S7 → S8 → S9 → Option O) → S1 → S2 → S3 → S4 → S5 → S6 → S7 → S8 → S9 → Option O) : Nat → S1 → S2 → S3 → S4 → S5 → S6 → S7 → S8 → S9 → Option O
  | 0 => fun _ _ _ _ _ _ _ _ _ => none
  | n + 1 => fun x1 x2 x3 x4 x5 x6 x7 x8 x9 => body (z_lp9 body n) x1 x2 x3 x4 x5 x6 x7 x8 x9
theorem z_lpr9 {S1 S2 S3 S4 S5 S6 S7 S8 S9 O : Type} {body : (S1 → S2 → S3 → S4 → S5 → S6 → S7 → S8 → S9 → Option O) → S1 → S2 → S3 → S4 → S5 → S6 → S7 → S8 → S9 → Option O} {g : S1 → S2 → S3 → S4 → S5 → S6 → S7 → S8 → S9 → Prop} {o : O} (hs : ∀ (k : S1 → S2 → S3 → S4 → S5 → S6 → S7 → S8 → S9 → Option O) (x1 : S1) (x2 : S2) (x3 : S3) (x4 : S4) (x5 : S5) (x6 : S6) (x7 : S7) (x8 : S8) (x9 : S9), (∀ (y1 : S1) (y2 : S2) (y3 : S3) (y4 : S4) (y5 : S5) (y6 : S6) (y7 : S7) (y8 : S8) (y9 : S9), k y1 y2 y3 y4 y5 y6 y7 y8 y9 = some o → g y1 y2 y3 y4 y5 y6 y7 y8 y9) → body k x1 x2 x3 x4 x5 x6 x7 x8 x9 = some o → g x1 x2 x3 x4 x5 x6 x7 x8 x9) : ∀ (n : Nat) (x1 : S1) (x2 : S2) (x3 : S3) (x4 : S4) (x5 : S5) (x6 : S6) (x7 : S7) (x8 : S8) (x9 : S9), z_lp9 body n x1 x2 x3 x4 x5 x6 x7 x8 x9 = some o → g x1 x2 x3 x4 x5 x6 x7 x8 x9
  | 0, x1, x2, x3, x4, x5, x6, x7, x8, x9, h => by cases h
  | n + 1, x1, x2, x3, x4, x5, x6, x7, x8, x9, h => hs (z_lp9 body n) x1 x2 x3 x4 x5 x6 x7 x8 x9 (fun y1 y2 y3 y4 y5 y6 y7 y8 y9 hk => z_lpr9 hs n y1 y2 y3 y4 y5 y6 y7 y8 y9 hk) h
section ZR
variable {E : z_En} {G : z_G} {A : Nat → Prop} {cc : ByteArray} {nL : Nat} {own : String} {R0 : Room} {lay : Nat → z_K} {N : Nat} {ad : Nat → Nat} {pc : Nat} {lv : List (Nat × Value)} {st : List Value} {σ : z_S}
theorem z_iconst (B : zB E G A cc nL own R0) {n : Int} {v : Int32} (hd : decode cc pc = .ok (.iconst n, 1)) (hv : Int32.ofInt n = v) (kk : ZW E G A nL lay N ad (pc + 1) lv (.int v :: st) σ) : ZW E G A nL lay N ad (pc) lv (st) σ := by
  obtain ⟨p, l, e, R, s, m, args, below, meth, c, Q⟩ := E
  obtain ⟨hx, hb, hml, hown, hts, hK, hA, hR⟩ := B
  intro H locs ls hP hD hS hl'
  exact lv_iconst hx hb hd hv (kk H locs ls hP hD hS hl')
theorem z_bipush (B : zB E G A cc nL own R0) {n : Int} {v : Int32} (hd : decode cc pc = .ok (.bipush n, 2)) (hv : (Int8.ofInt n).toInt32 = v) (kk : ZW E G A nL lay N ad (pc + 2) lv (.int v :: st) σ) : ZW E G A nL lay N ad (pc) lv (st) σ := by
  obtain ⟨p, l, e, R, s, m, args, below, meth, c, Q⟩ := E
  obtain ⟨hx, hb, hml, hown, hts, hK, hA, hR⟩ := B
  intro H locs ls hP hD hS hl'
  exact lv_bipush hx hb hd hv (kk H locs ls hP hD hS hl')
theorem z_sipush (B : zB E G A cc nL own R0) {n : Int} {v : Int32} (hd : decode cc pc = .ok (.sipush n, 3)) (hv : (Int16.ofInt n).toInt32 = v) (kk : ZW E G A nL lay N ad (pc + 3) lv (.int v :: st) σ) : ZW E G A nL lay N ad (pc) lv (st) σ := by
  obtain ⟨p, l, e, R, s, m, args, below, meth, c, Q⟩ := E
  obtain ⟨hx, hb, hml, hown, hts, hK, hA, hR⟩ := B
  intro H locs ls hP hD hS hl'
  exact lv_sipush hx hb hd hv (kk H locs ls hP hD hS hl')
theorem z_iload_n (B : zB E G A cc nL own R0) (q : Nat) {k : Fin 4} {i : Nat} {x : Int32} (hd : decode cc pc = .ok (.iload_n k, 1)) (hi : (k : Nat) = i) (hl : lv[q]? = some (i, .int x)) (kk : ZW E G A nL lay N ad (pc + 1) lv (.int x :: st) σ) : ZW E G A nL lay N ad (pc) lv (st) σ := by
  obtain ⟨p, l, e, R, s, m, args, below, meth, c, Q⟩ := E
  obtain ⟨hx, hb, hml, hown, hts, hK, hA, hR⟩ := B
  intro H locs ls hP hD hS hl'
  exact lv_iload_n hx hb hd hi (lv_at hl' q hl) (kk H locs ls hP hD hS hl')
theorem z_iload (B : zB E G A cc nL own R0) (q : Nat) {i : Nat} {x : Int32} (hd : decode cc pc = .ok (.iload i, 2)) (hl : lv[q]? = some (i, .int x)) (kk : ZW E G A nL lay N ad (pc + 2) lv (.int x :: st) σ) : ZW E G A nL lay N ad (pc) lv (st) σ := by
  obtain ⟨p, l, e, R, s, m, args, below, meth, c, Q⟩ := E
  obtain ⟨hx, hb, hml, hown, hts, hK, hA, hR⟩ := B
  intro H locs ls hP hD hS hl'
  exact lv_iload hx hb hd (lv_at hl' q hl) (kk H locs ls hP hD hS hl')
theorem z_istore_n (B : zB E G A cc nL own R0) (lv' : List (Nat × Value)) {k : Fin 4} {i : Nat} {x y : Int32} (hd : decode cc pc = .ok (.istore_n k, 1)) (hi : (k : Nat) = i) (hn : i < nL) (he : y = x) (hl : (i, Value.int y) :: lv.filter (fun q => !(q.1 == i) && !(q.1 + 1 == i && q.2.category == 2)) = lv') (kk : ZW E G A nL lay N ad (pc + 1) lv' (st) σ) : ZW E G A nL lay N ad (pc) lv (.int x :: st) σ := by
  obtain ⟨p, l, e, R, s, m, args, below, meth, c, Q⟩ := E
  obtain ⟨hx, hb, hml, hown, hts, hK, hA, hR⟩ := B
  intro H locs ls hP hD hS hl'
  subst he; exact lv_istore_n hx hb hd hi hl' hn hl (fun ls hl2 => kk H locs ls hP hD hS hl2)
theorem z_istore (B : zB E G A cc nL own R0) (lv' : List (Nat × Value)) {i : Nat} {x y : Int32} (hd : decode cc pc = .ok (.istore i, 2)) (hn : i < nL) (he : y = x) (hl : (i, Value.int y) :: lv.filter (fun q => !(q.1 == i) && !(q.1 + 1 == i && q.2.category == 2)) = lv') (kk : ZW E G A nL lay N ad (pc + 2) lv' (st) σ) : ZW E G A nL lay N ad (pc) lv (.int x :: st) σ := by
  obtain ⟨p, l, e, R, s, m, args, below, meth, c, Q⟩ := E
  obtain ⟨hx, hb, hml, hown, hts, hK, hA, hR⟩ := B
  intro H locs ls hP hD hS hl'
  subst he; exact lv_istore hx hb hd hl' hn hl (fun ls hl2 => kk H locs ls hP hD hS hl2)
theorem z_aload_n (B : zB E G A cc nL own R0) (q : Nat) {k : Fin 4} {i : Nat} {x : Nat} (hd : decode cc pc = .ok (.aload_n k, 1)) (hi : (k : Nat) = i) (hl : lv[q]? = some (i, .ref x)) (kk : ZW E G A nL lay N ad (pc + 1) lv (.ref x :: st) σ) : ZW E G A nL lay N ad (pc) lv (st) σ := by
  obtain ⟨p, l, e, R, s, m, args, below, meth, c, Q⟩ := E
  obtain ⟨hx, hb, hml, hown, hts, hK, hA, hR⟩ := B
  intro H locs ls hP hD hS hl'
  exact lv_aload_n hx hb hd hi (lv_at hl' q hl) (kk H locs ls hP hD hS hl')
theorem z_aload (B : zB E G A cc nL own R0) (q : Nat) {i : Nat} {x : Nat} (hd : decode cc pc = .ok (.aload i, 2)) (hl : lv[q]? = some (i, .ref x)) (kk : ZW E G A nL lay N ad (pc + 2) lv (.ref x :: st) σ) : ZW E G A nL lay N ad (pc) lv (st) σ := by
  obtain ⟨p, l, e, R, s, m, args, below, meth, c, Q⟩ := E
  obtain ⟨hx, hb, hml, hown, hts, hK, hA, hR⟩ := B
  intro H locs ls hP hD hS hl'
  exact lv_aload hx hb hd (lv_at hl' q hl) (kk H locs ls hP hD hS hl')
theorem z_astore_n (B : zB E G A cc nL own R0) (lv' : List (Nat × Value)) {k : Fin 4} {i : Nat} {x y : Nat} (hd : decode cc pc = .ok (.astore_n k, 1)) (hi : (k : Nat) = i) (hn : i < nL) (he : y = x) (hl : (i, Value.ref y) :: lv.filter (fun q => !(q.1 == i) && !(q.1 + 1 == i && q.2.category == 2)) = lv') (kk : ZW E G A nL lay N ad (pc + 1) lv' (st) σ) : ZW E G A nL lay N ad (pc) lv (.ref x :: st) σ := by
  obtain ⟨p, l, e, R, s, m, args, below, meth, c, Q⟩ := E
  obtain ⟨hx, hb, hml, hown, hts, hK, hA, hR⟩ := B
  intro H locs ls hP hD hS hl'
  subst he; exact lv_astore_n hx hb hd hi hl' hn hl (fun ls hl2 => kk H locs ls hP hD hS hl2)
theorem z_astore (B : zB E G A cc nL own R0) (lv' : List (Nat × Value)) {i : Nat} {x y : Nat} (hd : decode cc pc = .ok (.astore i, 2)) (hn : i < nL) (he : y = x) (hl : (i, Value.ref y) :: lv.filter (fun q => !(q.1 == i) && !(q.1 + 1 == i && q.2.category == 2)) = lv') (kk : ZW E G A nL lay N ad (pc + 2) lv' (st) σ) : ZW E G A nL lay N ad (pc) lv (.ref x :: st) σ := by
  obtain ⟨p, l, e, R, s, m, args, below, meth, c, Q⟩ := E
  obtain ⟨hx, hb, hml, hown, hts, hK, hA, hR⟩ := B
  intro H locs ls hP hD hS hl'
  subst he; exact lv_astore hx hb hd hl' hn hl (fun ls hl2 => kk H locs ls hP hD hS hl2)
theorem z_fload_n (B : zB E G A cc nL own R0) (q : Nat) {k : Fin 4} {i : Nat} {x : UInt32} (hd : decode cc pc = .ok (.fload_n k, 1)) (hi : (k : Nat) = i) (hl : lv[q]? = some (i, .float x)) (kk : ZW E G A nL lay N ad (pc + 1) lv (.float x :: st) σ) : ZW E G A nL lay N ad (pc) lv (st) σ := by
  obtain ⟨p, l, e, R, s, m, args, below, meth, c, Q⟩ := E
  obtain ⟨hx, hb, hml, hown, hts, hK, hA, hR⟩ := B
  intro H locs ls hP hD hS hl'
  exact lv_fload_n hx hb hd hi (lv_at hl' q hl) (kk H locs ls hP hD hS hl')
theorem z_fload (B : zB E G A cc nL own R0) (q : Nat) {i : Nat} {x : UInt32} (hd : decode cc pc = .ok (.fload i, 2)) (hl : lv[q]? = some (i, .float x)) (kk : ZW E G A nL lay N ad (pc + 2) lv (.float x :: st) σ) : ZW E G A nL lay N ad (pc) lv (st) σ := by
  obtain ⟨p, l, e, R, s, m, args, below, meth, c, Q⟩ := E
  obtain ⟨hx, hb, hml, hown, hts, hK, hA, hR⟩ := B
  intro H locs ls hP hD hS hl'
  exact lv_fload hx hb hd (lv_at hl' q hl) (kk H locs ls hP hD hS hl')
theorem z_fstore_n (B : zB E G A cc nL own R0) (lv' : List (Nat × Value)) {k : Fin 4} {i : Nat} {x y : UInt32} (hd : decode cc pc = .ok (.fstore_n k, 1)) (hi : (k : Nat) = i) (hn : i < nL) (he : y = x) (hl : (i, Value.float y) :: lv.filter (fun q => !(q.1 == i) && !(q.1 + 1 == i && q.2.category == 2)) = lv') (kk : ZW E G A nL lay N ad (pc + 1) lv' (st) σ) : ZW E G A nL lay N ad (pc) lv (.float x :: st) σ := by
  obtain ⟨p, l, e, R, s, m, args, below, meth, c, Q⟩ := E
  obtain ⟨hx, hb, hml, hown, hts, hK, hA, hR⟩ := B
  intro H locs ls hP hD hS hl'
  subst he; exact lv_fstore_n hx hb hd hi hl' hn hl (fun ls hl2 => kk H locs ls hP hD hS hl2)
theorem z_fstore (B : zB E G A cc nL own R0) (lv' : List (Nat × Value)) {i : Nat} {x y : UInt32} (hd : decode cc pc = .ok (.fstore i, 2)) (hn : i < nL) (he : y = x) (hl : (i, Value.float y) :: lv.filter (fun q => !(q.1 == i) && !(q.1 + 1 == i && q.2.category == 2)) = lv') (kk : ZW E G A nL lay N ad (pc + 2) lv' (st) σ) : ZW E G A nL lay N ad (pc) lv (.float x :: st) σ := by
  obtain ⟨p, l, e, R, s, m, args, below, meth, c, Q⟩ := E
  obtain ⟨hx, hb, hml, hown, hts, hK, hA, hR⟩ := B
  intro H locs ls hP hD hS hl'
  subst he; exact lv_fstore hx hb hd hl' hn hl (fun ls hl2 => kk H locs ls hP hD hS hl2)
theorem z_dload_n (B : zB E G A cc nL own R0) (q : Nat) {k : Fin 4} {i : Nat} {x : UInt64} (hd : decode cc pc = .ok (.dload_n k, 1)) (hi : (k : Nat) = i) (hl : lv[q]? = some (i, .double x)) (kk : ZW E G A nL lay N ad (pc + 1) lv (.double x :: st) σ) : ZW E G A nL lay N ad (pc) lv (st) σ := by
  obtain ⟨p, l, e, R, s, m, args, below, meth, c, Q⟩ := E
  obtain ⟨hx, hb, hml, hown, hts, hK, hA, hR⟩ := B
  intro H locs ls hP hD hS hl'
  exact lv_dload_n hx hb hd hi (lv_at hl' q hl) (kk H locs ls hP hD hS hl')
theorem z_dload (B : zB E G A cc nL own R0) (q : Nat) {i : Nat} {x : UInt64} (hd : decode cc pc = .ok (.dload i, 2)) (hl : lv[q]? = some (i, .double x)) (kk : ZW E G A nL lay N ad (pc + 2) lv (.double x :: st) σ) : ZW E G A nL lay N ad (pc) lv (st) σ := by
  obtain ⟨p, l, e, R, s, m, args, below, meth, c, Q⟩ := E
  obtain ⟨hx, hb, hml, hown, hts, hK, hA, hR⟩ := B
  intro H locs ls hP hD hS hl'
  exact lv_dload hx hb hd (lv_at hl' q hl) (kk H locs ls hP hD hS hl')
theorem z_dstore_n (B : zB E G A cc nL own R0) (lv' : List (Nat × Value)) {k : Fin 4} {i : Nat} {x y : UInt64} (hd : decode cc pc = .ok (.dstore_n k, 1)) (hi : (k : Nat) = i) (hn : i + 1 < nL) (he : y = x) (hl : (i, Value.double y) :: lv.filter (fun q => !(q.1 == i) && (!(q.1 == i + 1) && !(q.1 + 1 == i && q.2.category == 2))) = lv') (kk : ZW E G A nL lay N ad (pc + 1) lv' (st) σ) : ZW E G A nL lay N ad (pc) lv (.double x :: st) σ := by
  obtain ⟨p, l, e, R, s, m, args, below, meth, c, Q⟩ := E
  obtain ⟨hx, hb, hml, hown, hts, hK, hA, hR⟩ := B
  intro H locs ls hP hD hS hl'
  subst he; exact lv_dstore_n hx hb hd hi hl' hn hl (fun ls hl2 => kk H locs ls hP hD hS hl2)
theorem z_dstore (B : zB E G A cc nL own R0) (lv' : List (Nat × Value)) {i : Nat} {x y : UInt64} (hd : decode cc pc = .ok (.dstore i, 2)) (hn : i + 1 < nL) (he : y = x) (hl : (i, Value.double y) :: lv.filter (fun q => !(q.1 == i) && (!(q.1 == i + 1) && !(q.1 + 1 == i && q.2.category == 2))) = lv') (kk : ZW E G A nL lay N ad (pc + 2) lv' (st) σ) : ZW E G A nL lay N ad (pc) lv (.double x :: st) σ := by
  obtain ⟨p, l, e, R, s, m, args, below, meth, c, Q⟩ := E
  obtain ⟨hx, hb, hml, hown, hts, hK, hA, hR⟩ := B
  intro H locs ls hP hD hS hl'
  subst he; exact lv_dstore hx hb hd hl' hn hl (fun ls hl2 => kk H locs ls hP hD hS hl2)
theorem z_iinc (B : zB E G A cc nL own R0) (q : Nat) (lv' : List (Nat × Value)) {i : Nat} {n : Int} {x v : Int32} (hd : decode cc pc = .ok (.iinc i n, 3)) (hk : lv[q]? = some (i, .int x)) (hv : v = x + Int32.ofInt n) (hn : i < nL) (hl : (i, Value.int v) :: lv.filter (fun q => !(q.1 == i) && !(q.1 + 1 == i && q.2.category == 2)) = lv') (kk : ZW E G A nL lay N ad (pc + 3) lv' (st) σ) : ZW E G A nL lay N ad (pc) lv (st) σ := by
  obtain ⟨p, l, e, R, s, m, args, below, meth, c, Q⟩ := E
  obtain ⟨hx, hb, hml, hown, hts, hK, hA, hR⟩ := B
  intro H locs ls hP hD hS hl'
  exact lv_iinc hx hb hd hl' hk hv.symm hn hl (fun ls hl2 => kk H locs ls hP hD hS hl2)
theorem z_iadd (B : zB E G A cc nL own R0) {x y : Int32} (hd : decode cc pc = .ok (.iadd, 1)) (kk : ZW E G A nL lay N ad (pc + 1) lv (.int (x + y) :: st) σ) : ZW E G A nL lay N ad (pc) lv (.int y :: .int x :: st) σ := by
  obtain ⟨p, l, e, R, s, m, args, below, meth, c, Q⟩ := E
  obtain ⟨hx, hb, hml, hown, hts, hK, hA, hR⟩ := B
  intro H locs ls hP hD hS hl'
  exact lv_iadd hx hb hd (kk H locs ls hP hD hS hl')
theorem z_isub (B : zB E G A cc nL own R0) {x y : Int32} (hd : decode cc pc = .ok (.isub, 1)) (kk : ZW E G A nL lay N ad (pc + 1) lv (.int (x - y) :: st) σ) : ZW E G A nL lay N ad (pc) lv (.int y :: .int x :: st) σ := by
  obtain ⟨p, l, e, R, s, m, args, below, meth, c, Q⟩ := E
  obtain ⟨hx, hb, hml, hown, hts, hK, hA, hR⟩ := B
  intro H locs ls hP hD hS hl'
  exact lv_isub hx hb hd (kk H locs ls hP hD hS hl')
theorem z_imul (B : zB E G A cc nL own R0) {x y : Int32} (hd : decode cc pc = .ok (.imul, 1)) (kk : ZW E G A nL lay N ad (pc + 1) lv (.int (x * y) :: st) σ) : ZW E G A nL lay N ad (pc) lv (.int y :: .int x :: st) σ := by
  obtain ⟨p, l, e, R, s, m, args, below, meth, c, Q⟩ := E
  obtain ⟨hx, hb, hml, hown, hts, hK, hA, hR⟩ := B
  intro H locs ls hP hD hS hl'
  exact lv_imul hx hb hd (kk H locs ls hP hD hS hl')
theorem z_iand (B : zB E G A cc nL own R0) {x y : Int32} (hd : decode cc pc = .ok (.iand, 1)) (kk : ZW E G A nL lay N ad (pc + 1) lv (.int (x &&& y) :: st) σ) : ZW E G A nL lay N ad (pc) lv (.int y :: .int x :: st) σ := by
  obtain ⟨p, l, e, R, s, m, args, below, meth, c, Q⟩ := E
  obtain ⟨hx, hb, hml, hown, hts, hK, hA, hR⟩ := B
  intro H locs ls hP hD hS hl'
  exact lv_iand hx hb hd (kk H locs ls hP hD hS hl')
theorem z_idiv (B : zB E G A cc nL own R0) {x y : Int32} (hd : decode cc pc = .ok (.idiv, 1)) (hne : ¬ y = 0) (kk : ZW E G A nL lay N ad (pc + 1) lv (.int (x / y) :: st) σ) : ZW E G A nL lay N ad (pc) lv (.int y :: .int x :: st) σ := by
  obtain ⟨p, l, e, R, s, m, args, below, meth, c, Q⟩ := E
  obtain ⟨hx, hb, hml, hown, hts, hK, hA, hR⟩ := B
  intro H locs ls hP hD hS hl'
  exact lv_idiv hx hb hd hne (kk H locs ls hP hD hS hl')
theorem z_irem (B : zB E G A cc nL own R0) {x y : Int32} (hd : decode cc pc = .ok (.irem, 1)) (hne : ¬ y = 0) (kk : ZW E G A nL lay N ad (pc + 1) lv (.int (x - x / y * y) :: st) σ) : ZW E G A nL lay N ad (pc) lv (.int y :: .int x :: st) σ := by
  obtain ⟨p, l, e, R, s, m, args, below, meth, c, Q⟩ := E
  obtain ⟨hx, hb, hml, hown, hts, hK, hA, hR⟩ := B
  intro H locs ls hP hD hS hl'
  exact lv_irem hx hb hd hne (kk H locs ls hP hD hS hl')
theorem z_ineg (B : zB E G A cc nL own R0) {x : Int32} (hd : decode cc pc = .ok (.ineg, 1)) (kk : ZW E G A nL lay N ad (pc + 1) lv (.int (-x) :: st) σ) : ZW E G A nL lay N ad (pc) lv (.int x :: st) σ := by
  obtain ⟨p, l, e, R, s, m, args, below, meth, c, Q⟩ := E
  obtain ⟨hx, hb, hml, hown, hts, hK, hA, hR⟩ := B
  intro H locs ls hP hD hS hl'
  exact lv_ineg hx hb hd (kk H locs ls hP hD hS hl')
theorem z_ishl (B : zB E G A cc nL own R0) {x y : Int32} (hd : decode cc pc = .ok (.ishl, 1)) (kk : ZW E G A nL lay N ad (pc + 1) lv (.int (x <<< (y &&& 31)) :: st) σ) : ZW E G A nL lay N ad (pc) lv (.int y :: .int x :: st) σ := by
  obtain ⟨p, l, e, R, s, m, args, below, meth, c, Q⟩ := E
  obtain ⟨hx, hb, hml, hown, hts, hK, hA, hR⟩ := B
  intro H locs ls hP hD hS hl'
  exact lv_ishl hx hb hd (kk H locs ls hP hD hS hl')
theorem z_i2c (B : zB E G A cc nL own R0) {x : Int32} (hd : decode cc pc = .ok (.i2c, 1)) (kk : ZW E G A nL lay N ad (pc + 1) lv (.int ((x.toUInt32 % 65536).toInt32) :: st) σ) : ZW E G A nL lay N ad (pc) lv (.int x :: st) σ := by
  obtain ⟨p, l, e, R, s, m, args, below, meth, c, Q⟩ := E
  obtain ⟨hx, hb, hml, hown, hts, hK, hA, hR⟩ := B
  intro H locs ls hP hD hS hl'
  exact lv_i2c hx hb hd rfl (kk H locs ls hP hD hS hl')
theorem z_dup (B : zB E G A cc nL own R0) {v : Value} (hd : decode cc pc = .ok (.dup, 1)) (hv : v.category = 1) (kk : ZW E G A nL lay N ad (pc + 1) lv (v :: v :: st) σ) : ZW E G A nL lay N ad (pc) lv (v :: st) σ := by
  obtain ⟨p, l, e, R, s, m, args, below, meth, c, Q⟩ := E
  obtain ⟨hx, hb, hml, hown, hts, hK, hA, hR⟩ := B
  intro H locs ls hP hD hS hl'
  exact lv_dup hx hb hd hv (kk H locs ls hP hD hS hl')
theorem z_pop (B : zB E G A cc nL own R0) {v : Value} (hd : decode cc pc = .ok (.pop, 1)) (hv : v.category = 1) (kk : ZW E G A nL lay N ad (pc + 1) lv (st) σ) : ZW E G A nL lay N ad (pc) lv (v :: st) σ := by
  obtain ⟨p, l, e, R, s, m, args, below, meth, c, Q⟩ := E
  obtain ⟨hx, hb, hml, hown, hts, hK, hA, hR⟩ := B
  intro H locs ls hP hD hS hl'
  exact lv_pop hx hb hd hv (kk H locs ls hP hD hS hl')
theorem z_dup2 (B : zB E G A cc nL own R0) {v w : Value} (hd : decode cc pc = .ok (.dup2, 1)) (hv : v.category = 1) (hw : w.category = 1) (kk : ZW E G A nL lay N ad (pc + 1) lv (v :: w :: v :: w :: st) σ) : ZW E G A nL lay N ad (pc) lv (v :: w :: st) σ := by
  obtain ⟨p, l, e, R, s, m, args, below, meth, c, Q⟩ := E
  obtain ⟨hx, hb, hml, hown, hts, hK, hA, hR⟩ := B
  intro H locs ls hP hD hS hl'
  exact lv_dup2_11 hx hb hd hv hw (kk H locs ls hP hD hS hl')
theorem z_dup_x1 (B : zB E G A cc nL own R0) {v w : Value} (hd : decode cc pc = .ok (.dup_x1, 1)) (hv : v.category = 1) (hw : w.category = 1) (kk : ZW E G A nL lay N ad (pc + 1) lv (v :: w :: v :: st) σ) : ZW E G A nL lay N ad (pc) lv (v :: w :: st) σ := by
  obtain ⟨p, l, e, R, s, m, args, below, meth, c, Q⟩ := E
  obtain ⟨hx, hb, hml, hown, hts, hK, hA, hR⟩ := B
  intro H locs ls hP hD hS hl'
  exact lv_dup_x1 hx hb hd hv hw (kk H locs ls hP hD hS hl')
theorem z_goto (B : zB E G A cc nL own R0) {off : Int} {tgt : Nat} (hd : decode cc pc = .ok (.goto off, 3)) (ht : (pc : Int) + off = (tgt : Int)) (kk : ZW E G A nL lay N ad (tgt) lv (st) σ) : ZW E G A nL lay N ad (pc) lv (st) σ := by
  obtain ⟨p, l, e, R, s, m, args, below, meth, c, Q⟩ := E
  obtain ⟨hx, hb, hml, hown, hts, hK, hA, hR⟩ := B
  intro H locs ls hP hD hS hl'
  exact lv_goto hx hb hd ht (kk H locs ls hP hD hS hl')
theorem z_if_eq (B : zB E G A cc nL own R0) {x : Int32} {off : Int} {tgt : Nat} (hd : decode cc pc = .ok (.ifCond .eq off, 3)) (ht : (pc : Int) + off = (tgt : Int)) (kt : x = 0 → ZW E G A nL lay N ad (tgt) lv (st) σ) (kf : ¬ x = 0 → ZW E G A nL lay N ad (pc + 3) lv (st) σ) : ZW E G A nL lay N ad (pc) lv (.int x :: st) σ := by
  obtain ⟨p, l, e, R, s, m, args, below, meth, c, Q⟩ := E
  obtain ⟨hx, hb, hml, hown, hts, hK, hA, hR⟩ := B
  intro H locs ls hP hD hS hl'
  exact lv_if_eq hx hb hd ht (fun h => kt h H locs ls hP hD hS hl') (fun h => kf h H locs ls hP hD hS hl')
theorem z_icmp_eq (B : zB E G A cc nL own R0) {x y : Int32} {off : Int} {tgt : Nat} (hd : decode cc pc = .ok (.if_icmp .eq off, 3)) (ht : (pc : Int) + off = (tgt : Int)) (kt : x = y → ZW E G A nL lay N ad (tgt) lv (st) σ) (kf : ¬ x = y → ZW E G A nL lay N ad (pc + 3) lv (st) σ) : ZW E G A nL lay N ad (pc) lv (.int y :: .int x :: st) σ := by
  obtain ⟨p, l, e, R, s, m, args, below, meth, c, Q⟩ := E
  obtain ⟨hx, hb, hml, hown, hts, hK, hA, hR⟩ := B
  intro H locs ls hP hD hS hl'
  exact lv_icmp_eq hx hb hd ht (fun h => kt h H locs ls hP hD hS hl') (fun h => kf h H locs ls hP hD hS hl')
theorem z_if_ne (B : zB E G A cc nL own R0) {x : Int32} {off : Int} {tgt : Nat} (hd : decode cc pc = .ok (.ifCond .ne off, 3)) (ht : (pc : Int) + off = (tgt : Int)) (kt : ¬ x = 0 → ZW E G A nL lay N ad (tgt) lv (st) σ) (kf : x = 0 → ZW E G A nL lay N ad (pc + 3) lv (st) σ) : ZW E G A nL lay N ad (pc) lv (.int x :: st) σ := by
  obtain ⟨p, l, e, R, s, m, args, below, meth, c, Q⟩ := E
  obtain ⟨hx, hb, hml, hown, hts, hK, hA, hR⟩ := B
  intro H locs ls hP hD hS hl'
  exact lv_if_ne hx hb hd ht (fun h => kt h H locs ls hP hD hS hl') (fun h => kf h H locs ls hP hD hS hl')
theorem z_icmp_ne (B : zB E G A cc nL own R0) {x y : Int32} {off : Int} {tgt : Nat} (hd : decode cc pc = .ok (.if_icmp .ne off, 3)) (ht : (pc : Int) + off = (tgt : Int)) (kt : ¬ x = y → ZW E G A nL lay N ad (tgt) lv (st) σ) (kf : x = y → ZW E G A nL lay N ad (pc + 3) lv (st) σ) : ZW E G A nL lay N ad (pc) lv (.int y :: .int x :: st) σ := by
  obtain ⟨p, l, e, R, s, m, args, below, meth, c, Q⟩ := E
  obtain ⟨hx, hb, hml, hown, hts, hK, hA, hR⟩ := B
  intro H locs ls hP hD hS hl'
  exact lv_icmp_ne hx hb hd ht (fun h => kt h H locs ls hP hD hS hl') (fun h => kf h H locs ls hP hD hS hl')
theorem z_if_lt (B : zB E G A cc nL own R0) {x : Int32} {off : Int} {tgt : Nat} (hd : decode cc pc = .ok (.ifCond .lt off, 3)) (ht : (pc : Int) + off = (tgt : Int)) (kt : x < 0 → ZW E G A nL lay N ad (tgt) lv (st) σ) (kf : ¬ x < 0 → ZW E G A nL lay N ad (pc + 3) lv (st) σ) : ZW E G A nL lay N ad (pc) lv (.int x :: st) σ := by
  obtain ⟨p, l, e, R, s, m, args, below, meth, c, Q⟩ := E
  obtain ⟨hx, hb, hml, hown, hts, hK, hA, hR⟩ := B
  intro H locs ls hP hD hS hl'
  exact lv_if_lt hx hb hd ht (fun h => kt h H locs ls hP hD hS hl') (fun h => kf h H locs ls hP hD hS hl')
theorem z_icmp_lt (B : zB E G A cc nL own R0) {x y : Int32} {off : Int} {tgt : Nat} (hd : decode cc pc = .ok (.if_icmp .lt off, 3)) (ht : (pc : Int) + off = (tgt : Int)) (kt : x < y → ZW E G A nL lay N ad (tgt) lv (st) σ) (kf : ¬ x < y → ZW E G A nL lay N ad (pc + 3) lv (st) σ) : ZW E G A nL lay N ad (pc) lv (.int y :: .int x :: st) σ := by
  obtain ⟨p, l, e, R, s, m, args, below, meth, c, Q⟩ := E
  obtain ⟨hx, hb, hml, hown, hts, hK, hA, hR⟩ := B
  intro H locs ls hP hD hS hl'
  exact lv_icmp_lt hx hb hd ht (fun h => kt h H locs ls hP hD hS hl') (fun h => kf h H locs ls hP hD hS hl')
theorem z_if_ge (B : zB E G A cc nL own R0) {x : Int32} {off : Int} {tgt : Nat} (hd : decode cc pc = .ok (.ifCond .ge off, 3)) (ht : (pc : Int) + off = (tgt : Int)) (kt : 0 ≤ x → ZW E G A nL lay N ad (tgt) lv (st) σ) (kf : ¬ 0 ≤ x → ZW E G A nL lay N ad (pc + 3) lv (st) σ) : ZW E G A nL lay N ad (pc) lv (.int x :: st) σ := by
  obtain ⟨p, l, e, R, s, m, args, below, meth, c, Q⟩ := E
  obtain ⟨hx, hb, hml, hown, hts, hK, hA, hR⟩ := B
  intro H locs ls hP hD hS hl'
  exact lv_if_ge hx hb hd ht (fun h => kt h H locs ls hP hD hS hl') (fun h => kf h H locs ls hP hD hS hl')
theorem z_icmp_ge (B : zB E G A cc nL own R0) {x y : Int32} {off : Int} {tgt : Nat} (hd : decode cc pc = .ok (.if_icmp .ge off, 3)) (ht : (pc : Int) + off = (tgt : Int)) (kt : y ≤ x → ZW E G A nL lay N ad (tgt) lv (st) σ) (kf : ¬ y ≤ x → ZW E G A nL lay N ad (pc + 3) lv (st) σ) : ZW E G A nL lay N ad (pc) lv (.int y :: .int x :: st) σ := by
  obtain ⟨p, l, e, R, s, m, args, below, meth, c, Q⟩ := E
  obtain ⟨hx, hb, hml, hown, hts, hK, hA, hR⟩ := B
  intro H locs ls hP hD hS hl'
  exact lv_icmp_ge hx hb hd ht (fun h => kt h H locs ls hP hD hS hl') (fun h => kf h H locs ls hP hD hS hl')
theorem z_if_gt (B : zB E G A cc nL own R0) {x : Int32} {off : Int} {tgt : Nat} (hd : decode cc pc = .ok (.ifCond .gt off, 3)) (ht : (pc : Int) + off = (tgt : Int)) (kt : 0 < x → ZW E G A nL lay N ad (tgt) lv (st) σ) (kf : ¬ 0 < x → ZW E G A nL lay N ad (pc + 3) lv (st) σ) : ZW E G A nL lay N ad (pc) lv (.int x :: st) σ := by
  obtain ⟨p, l, e, R, s, m, args, below, meth, c, Q⟩ := E
  obtain ⟨hx, hb, hml, hown, hts, hK, hA, hR⟩ := B
  intro H locs ls hP hD hS hl'
  exact lv_if_gt hx hb hd ht (fun h => kt h H locs ls hP hD hS hl') (fun h => kf h H locs ls hP hD hS hl')
theorem z_icmp_gt (B : zB E G A cc nL own R0) {x y : Int32} {off : Int} {tgt : Nat} (hd : decode cc pc = .ok (.if_icmp .gt off, 3)) (ht : (pc : Int) + off = (tgt : Int)) (kt : y < x → ZW E G A nL lay N ad (tgt) lv (st) σ) (kf : ¬ y < x → ZW E G A nL lay N ad (pc + 3) lv (st) σ) : ZW E G A nL lay N ad (pc) lv (.int y :: .int x :: st) σ := by
  obtain ⟨p, l, e, R, s, m, args, below, meth, c, Q⟩ := E
  obtain ⟨hx, hb, hml, hown, hts, hK, hA, hR⟩ := B
  intro H locs ls hP hD hS hl'
  exact lv_icmp_gt hx hb hd ht (fun h => kt h H locs ls hP hD hS hl') (fun h => kf h H locs ls hP hD hS hl')
theorem z_if_le (B : zB E G A cc nL own R0) {x : Int32} {off : Int} {tgt : Nat} (hd : decode cc pc = .ok (.ifCond .le off, 3)) (ht : (pc : Int) + off = (tgt : Int)) (kt : x ≤ 0 → ZW E G A nL lay N ad (tgt) lv (st) σ) (kf : ¬ x ≤ 0 → ZW E G A nL lay N ad (pc + 3) lv (st) σ) : ZW E G A nL lay N ad (pc) lv (.int x :: st) σ := by
  obtain ⟨p, l, e, R, s, m, args, below, meth, c, Q⟩ := E
  obtain ⟨hx, hb, hml, hown, hts, hK, hA, hR⟩ := B
  intro H locs ls hP hD hS hl'
  exact lv_if_le hx hb hd ht (fun h => kt h H locs ls hP hD hS hl') (fun h => kf h H locs ls hP hD hS hl')
theorem z_icmp_le (B : zB E G A cc nL own R0) {x y : Int32} {off : Int} {tgt : Nat} (hd : decode cc pc = .ok (.if_icmp .le off, 3)) (ht : (pc : Int) + off = (tgt : Int)) (kt : x ≤ y → ZW E G A nL lay N ad (tgt) lv (st) σ) (kf : ¬ x ≤ y → ZW E G A nL lay N ad (pc + 3) lv (st) σ) : ZW E G A nL lay N ad (pc) lv (.int y :: .int x :: st) σ := by
  obtain ⟨p, l, e, R, s, m, args, below, meth, c, Q⟩ := E
  obtain ⟨hx, hb, hml, hown, hts, hK, hA, hR⟩ := B
  intro H locs ls hP hD hS hl'
  exact lv_icmp_le hx hb hd ht (fun h => kt h H locs ls hP hD hS hl') (fun h => kf h H locs ls hP hD hS hl')
theorem z_fconst0 (B : zB E G A cc nL own R0) (hd : decode cc pc = .ok (.fconst 0, 1)) (kk : ZW E G A nL lay N ad (pc + 1) lv (.float FP.fconst0 :: st) σ) : ZW E G A nL lay N ad (pc) lv (st) σ := by
  obtain ⟨p, l, e, R, s, m, args, below, meth, c, Q⟩ := E
  obtain ⟨hx, hb, hml, hown, hts, hK, hA, hR⟩ := B
  intro H locs ls hP hD hS hl'
  exact lv_fconst0 hx hb hd (kk H locs ls hP hD hS hl')
theorem z_fconst1 (B : zB E G A cc nL own R0) (hd : decode cc pc = .ok (.fconst 1, 1)) (kk : ZW E G A nL lay N ad (pc + 1) lv (.float FP.fconst1 :: st) σ) : ZW E G A nL lay N ad (pc) lv (st) σ := by
  obtain ⟨p, l, e, R, s, m, args, below, meth, c, Q⟩ := E
  obtain ⟨hx, hb, hml, hown, hts, hK, hA, hR⟩ := B
  intro H locs ls hP hD hS hl'
  exact lv_fconst1 hx hb hd (kk H locs ls hP hD hS hl')
theorem z_fconst2 (B : zB E G A cc nL own R0) (hd : decode cc pc = .ok (.fconst 2, 1)) (kk : ZW E G A nL lay N ad (pc + 1) lv (.float FP.fconst2 :: st) σ) : ZW E G A nL lay N ad (pc) lv (st) σ := by
  obtain ⟨p, l, e, R, s, m, args, below, meth, c, Q⟩ := E
  obtain ⟨hx, hb, hml, hown, hts, hK, hA, hR⟩ := B
  intro H locs ls hP hD hS hl'
  exact lv_fconst2 hx hb hd (kk H locs ls hP hD hS hl')
theorem z_dconst0 (B : zB E G A cc nL own R0) (hd : decode cc pc = .ok (.dconst 0, 1)) (kk : ZW E G A nL lay N ad (pc + 1) lv (.double FP.dconst0 :: st) σ) : ZW E G A nL lay N ad (pc) lv (st) σ := by
  obtain ⟨p, l, e, R, s, m, args, below, meth, c, Q⟩ := E
  obtain ⟨hx, hb, hml, hown, hts, hK, hA, hR⟩ := B
  intro H locs ls hP hD hS hl'
  exact lv_dconst0 hx hb hd (kk H locs ls hP hD hS hl')
theorem z_ldcf (B : zB E G A cc nL own R0) {index : Nat} {v : UInt32} (hc : (Jvm.Cond.constantFloat own index v) ∈ wsL_law) (hd : decode cc pc = .ok (.ldc index, 2)) (kk : ZW E G A nL lay N ad (pc + 2) lv (.float v :: st) σ) : ZW E G A nL lay N ad (pc) lv (st) σ := by
  obtain ⟨p, l, e, R, s, m, args, below, meth, c, Q⟩ := E
  obtain ⟨hx, hb, hml, hown, hts, hK, hA, hR⟩ := B
  intro H locs ls hP hD hS hl'
  exact lv_ldcf hx hb hown (hts _ hc) hd (kk H locs ls hP hD hS hl')
theorem z_fmul (B : zB E G A cc nL own R0) {x y : UInt32} (hd : decode cc pc = .ok (.fmul, 1)) (hne : vf_n32 (FP.fmul x y)) (kk : ZW E G A nL lay N ad (pc + 1) lv (.float (FP.fmul x y) :: st) σ) : ZW E G A nL lay N ad (pc) lv (.float y :: .float x :: st) σ := by
  obtain ⟨p, l, e, R, s, m, args, below, meth, c, Q⟩ := E
  obtain ⟨hx, hb, hml, hown, hts, hK, hA, hR⟩ := B
  intro H locs ls hP hD hS hl'
  exact lv_fmul hx hb hd hne (kk H locs ls hP hD hS hl')
theorem z_fsub (B : zB E G A cc nL own R0) {x y : UInt32} (hd : decode cc pc = .ok (.fsub, 1)) (hne : vf_n32 (FP.fsub x y)) (kk : ZW E G A nL lay N ad (pc + 1) lv (.float (FP.fsub x y) :: st) σ) : ZW E G A nL lay N ad (pc) lv (.float y :: .float x :: st) σ := by
  obtain ⟨p, l, e, R, s, m, args, below, meth, c, Q⟩ := E
  obtain ⟨hx, hb, hml, hown, hts, hK, hA, hR⟩ := B
  intro H locs ls hP hD hS hl'
  exact lv_fsub hx hb hd hne (kk H locs ls hP hD hS hl')
theorem z_fdiv (B : zB E G A cc nL own R0) {x y : UInt32} (hd : decode cc pc = .ok (.fdiv, 1)) (hne : vf_n32 (FP.fdiv x y)) (kk : ZW E G A nL lay N ad (pc + 1) lv (.float (FP.fdiv x y) :: st) σ) : ZW E G A nL lay N ad (pc) lv (.float y :: .float x :: st) σ := by
  obtain ⟨p, l, e, R, s, m, args, below, meth, c, Q⟩ := E
  obtain ⟨hx, hb, hml, hown, hts, hK, hA, hR⟩ := B
  intro H locs ls hP hD hS hl'
  exact lv_fdiv hx hb hd hne (kk H locs ls hP hD hS hl')
theorem z_dadd (B : zB E G A cc nL own R0) {x y : UInt64} (hd : decode cc pc = .ok (.dadd, 1)) (hne : vf_n64 (FP.dadd x y)) (kk : ZW E G A nL lay N ad (pc + 1) lv (.double (FP.dadd x y) :: st) σ) : ZW E G A nL lay N ad (pc) lv (.double y :: .double x :: st) σ := by
  obtain ⟨p, l, e, R, s, m, args, below, meth, c, Q⟩ := E
  obtain ⟨hx, hb, hml, hown, hts, hK, hA, hR⟩ := B
  intro H locs ls hP hD hS hl'
  exact lv_dadd hx hb hd hne (kk H locs ls hP hD hS hl')
theorem z_ddiv (B : zB E G A cc nL own R0) {x y : UInt64} (hd : decode cc pc = .ok (.ddiv, 1)) (hne : vf_n64 (FP.ddiv x y)) (kk : ZW E G A nL lay N ad (pc + 1) lv (.double (FP.ddiv x y) :: st) σ) : ZW E G A nL lay N ad (pc) lv (.double y :: .double x :: st) σ := by
  obtain ⟨p, l, e, R, s, m, args, below, meth, c, Q⟩ := E
  obtain ⟨hx, hb, hml, hown, hts, hK, hA, hR⟩ := B
  intro H locs ls hP hD hS hl'
  exact lv_ddiv hx hb hd hne (kk H locs ls hP hD hS hl')
theorem z_f2d (B : zB E G A cc nL own R0) {x : UInt32} (hd : decode cc pc = .ok (.f2d, 1)) (hne : vf_n64 (FP.f2d x)) (kk : ZW E G A nL lay N ad (pc + 1) lv (.double (FP.f2d x) :: st) σ) : ZW E G A nL lay N ad (pc) lv (.float x :: st) σ := by
  obtain ⟨p, l, e, R, s, m, args, below, meth, c, Q⟩ := E
  obtain ⟨hx, hb, hml, hown, hts, hK, hA, hR⟩ := B
  intro H locs ls hP hD hS hl'
  exact lv_f2d hx hb hd hne (kk H locs ls hP hD hS hl')
theorem z_d2f (B : zB E G A cc nL own R0) {x : UInt64} (hd : decode cc pc = .ok (.d2f, 1)) (hne : vf_n32 (FP.d2f x)) (kk : ZW E G A nL lay N ad (pc + 1) lv (.float (FP.d2f x) :: st) σ) : ZW E G A nL lay N ad (pc) lv (.double x :: st) σ := by
  obtain ⟨p, l, e, R, s, m, args, below, meth, c, Q⟩ := E
  obtain ⟨hx, hb, hml, hown, hts, hK, hA, hR⟩ := B
  intro H locs ls hP hD hS hl'
  exact lv_d2f hx hb hd hne (kk H locs ls hP hD hS hl')
theorem z_fcmp (B : zB E G A cc nL own R0) {x y : UInt32} {op : CmpOp} (hd : decode cc pc = .ok (.fcmp op, 1)) (kk : ZW E G A nL lay N ad (pc + 1) lv (.int (Op.cmpValue (FP.fcmp x y) op) :: st) σ) : ZW E G A nL lay N ad (pc) lv (.float y :: .float x :: st) σ := by
  obtain ⟨p, l, e, R, s, m, args, below, meth, c, Q⟩ := E
  obtain ⟨hx, hb, hml, hown, hts, hK, hA, hR⟩ := B
  intro H locs ls hP hD hS hl'
  exact lv_fcmp hx hb hd (kk H locs ls hP hD hS hl')
theorem z_i2f (B : zB E G A cc nL own R0) {x : Int32} (hd : decode cc pc = .ok (.i2f, 1)) (kk : ZW E G A nL lay N ad (pc + 1) lv (.float (FP.i2f x) :: st) σ) : ZW E G A nL lay N ad (pc) lv (.int x :: st) σ := by
  obtain ⟨p, l, e, R, s, m, args, below, meth, c, Q⟩ := E
  obtain ⟨hx, hb, hml, hown, hts, hK, hA, hR⟩ := B
  intro H locs ls hP hD hS hl'
  exact lv_i2f hx hb hd (kk H locs ls hP hD hS hl')
theorem z_i2d (B : zB E G A cc nL own R0) {x : Int32} (hd : decode cc pc = .ok (.i2d, 1)) (kk : ZW E G A nL lay N ad (pc + 1) lv (.double (FP.i2d x) :: st) σ) : ZW E G A nL lay N ad (pc) lv (.int x :: st) σ := by
  obtain ⟨p, l, e, R, s, m, args, below, meth, c, Q⟩ := E
  obtain ⟨hx, hb, hml, hown, hts, hK, hA, hR⟩ := B
  intro H locs ls hP hD hS hl'
  exact lv_i2d hx hb hd (kk H locs ls hP hD hS hl')
theorem z_f2i (B : zB E G A cc nL own R0) {x : UInt32} (hd : decode cc pc = .ok (.f2i, 1)) (kk : ZW E G A nL lay N ad (pc + 1) lv (.int (FP.f2i x) :: st) σ) : ZW E G A nL lay N ad (pc) lv (.float x :: st) σ := by
  obtain ⟨p, l, e, R, s, m, args, below, meth, c, Q⟩ := E
  obtain ⟨hx, hb, hml, hown, hts, hK, hA, hR⟩ := B
  intro H locs ls hP hD hS hl'
  exact lv_f2i hx hb hd (kk H locs ls hP hD hS hl')
/-- other order or fewer locals -/
theorem z_lv (ks : List Nat) {lv' : List (Nat × Value)} (hl : lv_pick lv ks = lv') (kk : ZW E G A nL lay N ad pc lv' st σ) : ZW E G A nL lay N ad pc lv st σ := by
  obtain ⟨p, l, e, R, s, m, args, below, meth, c, Q⟩ := E
  intro H locs ls hP hD hS hl'
  exact kk H locs ls hP hD hS (lv_sub hl' ks hl)
theorem z_tableOut (B : zB E G A cc nL own R0) {dflt lo hi : Int} {offs : Array Int} {len : Nat} {x : Int32} {tgt : Nat} (hd : decode cc pc = .ok (.tableswitch dflt lo hi offs, len)) (h : x.toInt < lo ∨ hi < x.toInt) (ht : (pc : Int) + dflt = (tgt : Int)) (kk : ZW E G A nL lay N ad tgt lv st σ) : ZW E G A nL lay N ad pc lv (.int x :: st) σ := by
  obtain ⟨p, l, e, R, s, m, args, below, meth, c, Q⟩ := E
  obtain ⟨hx, hb, hml, hown, hts, hK, hA, hR⟩ := B
  intro H locs ls hP hD hS hl'
  exact lv_tableOut hx hb hd h ht (kk H locs ls hP hD hS hl')
theorem z_tableIn (B : zB E G A cc nL own R0) {dflt lo hi : Int} {offs : Array Int} {len : Nat} {x v : Int32} {off : Int} {tgt : Nat} (hd : decode cc pc = .ok (.tableswitch dflt lo hi offs, len)) (hxv : x = v) (h1 : ¬ v.toInt < lo) (h2 : ¬ hi < v.toInt) (ho : offs[(v.toInt - lo).toNat]? = some off) (ht : (pc : Int) + off = (tgt : Int)) (kk : ZW E G A nL lay N ad tgt lv st σ) : ZW E G A nL lay N ad pc lv (.int x :: st) σ := by
  obtain ⟨p, l, e, R, s, m, args, below, meth, c, Q⟩ := E
  obtain ⟨hx, hb, hml, hown, hts, hK, hA, hR⟩ := B
  intro H locs ls hP hD hS hl'
  subst hxv
  exact lv_tableIn hx hb hd h1 h2 ho ht (kk H locs ls hP hD hS hl')
theorem z_lookup (B : zB E G A cc nL own R0) {dflt : Int} {ps : Array (Int × Int)} {len : Nat} {x : Int32} {off : Int} {tgt : Nat} (hd : decode cc pc = .ok (.lookupswitch dflt ps, len)) (hp : (ps.toList.zip (ps.toList.drop 1)).all (fun (a, next) => a.1 < next.1) = true) (ho : Op.lookupswitch.offset ps.toList dflt x.toInt = off) (ht : (pc : Int) + off = (tgt : Int)) (kk : ZW E G A nL lay N ad tgt lv st σ) : ZW E G A nL lay N ad pc lv (.int x :: st) σ := by
  obtain ⟨p, l, e, R, s, m, args, below, meth, c, Q⟩ := E
  obtain ⟨hx, hb, hml, hown, hts, hK, hA, hR⟩ := B
  intro H locs ls hP hD hS hl'
  exact lv_lookup hx hb hd hp ho ht (kk H locs ls hP hD hS hl')
/-- a field that is a number -/
theorem z_get (B : zB E G A cc nL own R0) (i j : Nat) {ci n index : Nat} {fs : List (Option Nat)} {C : String} {T : u_T} (hk : lay i = .inr (ci, fs)) (hi : i < N) (hc : vwCl[ci]? = some (C, T, n)) (hin : ∀ w ∈ u_ws C T n, w ∈ wsL_law) (hj : j < n) (hf : fs[j]? = some none) (hlink : Cond.fieldLink own index (T j).1 (T j).2.1 (T j).2.2.1 ∈ wsL_law) (hd : decode cc pc = .ok (.getfield index, 3)) (kk : ZW E G A nL lay N ad (pc + 3) lv (.int (σ i j) :: st) σ) : ZW E G A nL lay N ad pc lv (.ref (ad i) :: st) σ := by
  obtain ⟨p, l, e, R, s, m, args, below, meth, c, Q⟩ := E
  obtain ⟨hx, hb, hml, hown, hts, hK, hA, hR⟩ := B
  intro H locs ls hP hD hS hl'
  have he := z_Wat (G := G) (lay := lay) (ad := ad) (σ := σ) hi
  rw [hk] at he
  have hg := z_fs_get (ad := ad) (x := σ i) fs 0 j hf
  rw [Nat.zero_add] at hg
  exact va_get hx hb hts hin hown hK.1 hP.w i he hc j hj (hts _ hlink) (fun _ h9 => h9) hg hd (kk H locs ls hP hD hS hl')
/-- a field that leads to a cell -/
theorem z_getr (B : zB E G A cc nL own R0) (i j r : Nat) {ci n index : Nat} {fs : List (Option Nat)} {C : String} {T : u_T} (hk : lay i = .inr (ci, fs)) (hi : i < N) (hc : vwCl[ci]? = some (C, T, n)) (hin : ∀ w ∈ u_ws C T n, w ∈ wsL_law) (hj : j < n) (hf : fs[j]? = some (some r)) (hlink : Cond.fieldLink own index (T j).1 (T j).2.1 (T j).2.2.1 ∈ wsL_law) (hd : decode cc pc = .ok (.getfield index, 3)) (kk : ZW E G A nL lay N ad (pc + 3) lv (.ref (ad r) :: st) σ) : ZW E G A nL lay N ad pc lv (.ref (ad i) :: st) σ := by
  obtain ⟨p, l, e, R, s, m, args, below, meth, c, Q⟩ := E
  obtain ⟨hx, hb, hml, hown, hts, hK, hA, hR⟩ := B
  intro H locs ls hP hD hS hl'
  have he := z_Wat (G := G) (lay := lay) (ad := ad) (σ := σ) hi
  rw [hk] at he
  have hg := z_fs_getr (ad := ad) (x := σ i) fs 0 j r hf
  exact va_get hx hb hts hin hown hK.1 hP.w i he hc j hj (hts _ hlink) (fun _ h9 => h9) hg hd (kk H locs ls hP hD hS hl')
theorem z_putX (B : zB E G A cc nL own R0) (i j : Nat) {ci n index : Nat} {fs : List (Option Nat)} {C : String} {T : u_T} {ty : FieldType} {x : Int32} (hk : lay i = .inr (ci, fs)) (hi : i < N) (hc : vwCl[ci]? = some (C, T, n)) (hin : ∀ w ∈ u_ws C T n, w ∈ wsL_law) (ty0 : Nat → FieldType) (hty : ∀ k, k < n → parseFieldDescriptor (T k).2.2.1 = some (ty0 k)) (hnm : ∀ a, a < n → ∀ b, b < n → a ≠ b → (T a).2.1 ≠ (T b).2.1) (hj : j < n) (hf : fs[j]? = some none) (hfin : (T j).2.2.2 = false) (hpd : parseFieldDescriptor (T j).2.2.1 = some ty) (hn : narrow ty (.int x) = .int x) (hfit : fits ty (.int x) = true) (hlink : Cond.fieldLink own index (T j).1 (T j).2.1 (T j).2.2.1 ∈ wsL_law) (hd : decode cc pc = .ok (.putfield index, 3)) (kk : ZW E G A nL lay N ad (pc + 3) lv st (z_u σ i j x)) : ZW E G A nL lay N ad pc lv (.int x :: .ref (ad i) :: st) σ := by
  obtain ⟨p, l, e, R, s, m, args, below, meth, c, Q⟩ := E
  obtain ⟨hx, hb, hml, hown, hts, hK, hA, hR⟩ := B
  intro H locs ls hP hD hS hl'
  have he := z_Wat (G := G) (lay := lay) (ad := ad) (σ := σ) hi
  rw [hk] at he
  have hlen : j < (z_fs ad (σ i) 0 fs).length := by rw [z_fs_len]; exact (List.getElem?_eq_some_iff.mp hf).1
  refine va_put hx hb hts hin ty0 hty hnm hown hK.1 hP.w hD.w hS i he hc j hj (hts _ hlink) (fun _ h9 => h9) hfin hpd hn hfit hlen hd (fun H1 locs1 hP1 hD1 hS1 => kk H1 locs1 ls (z_P.of ?_) hD hS1 hl')
  rw [z_Wset (σ' := z_u σ i j x) hi ?_ (fun a ha => z_u_o ha)] at hP1
  · exact hP1
  · have hs := z_fs_set (ad := ad) (x := σ i) (v := x) fs 0 j hf
    rw [Nat.zero_add] at hs
    rw [hk, z_u_i, hs]
    rfl
/-- a field of type int is written -/
theorem z_put (B : zB E G A cc nL own R0) (i j : Nat) {ci n index : Nat} {fs : List (Option Nat)} {C : String} {T : u_T} {x : Int32} (hk : lay i = .inr (ci, fs)) (hi : i < N) (hc : vwCl[ci]? = some (C, T, n)) (hin : ∀ w ∈ u_ws C T n, w ∈ wsL_law) (ty0 : Nat → FieldType) (hty : ∀ k, k < n → parseFieldDescriptor (T k).2.2.1 = some (ty0 k)) (hnm : ∀ a, a < n → ∀ b, b < n → a ≠ b → (T a).2.1 ≠ (T b).2.1) (hj : j < n) (hf : fs[j]? = some none) (hfin : (T j).2.2.2 = false) (hpd : parseFieldDescriptor (T j).2.2.1 = some .int) (hlink : Cond.fieldLink own index (T j).1 (T j).2.1 (T j).2.2.1 ∈ wsL_law) (hd : decode cc pc = .ok (.putfield index, 3)) (kk : ZW E G A nL lay N ad (pc + 3) lv st (z_u σ i j x)) : ZW E G A nL lay N ad pc lv (.int x :: .ref (ad i) :: st) σ :=
  z_putX B i j hk hi hc hin ty0 hty hnm hj hf hfin hpd rfl rfl hlink hd kk
/-- an int array is read -/
theorem z_iald (B : zB E G A cc nL own R0) (i n : Nat) {x : Int32} (hk : lay i = .inl (0, n)) (hi : i < N) (hd : decode cc pc = .ok (.iaload, 1)) (hin : vp_in x n) (kk : ZW E G A nL lay N ad (pc + 1) lv (.int (σ i x.toNatClampNeg) :: st) σ) : ZW E G A nL lay N ad pc lv (.int x :: .ref (ad i) :: st) σ := by
  obtain ⟨p, l, e, R, s, m, args, below, meth, c, Q⟩ := E
  obtain ⟨hx, hb, hml, hown, hts, hK, hA, hR⟩ := B
  intro H locs ls hP hD hS hl'
  have he := z_Wat (G := G) (lay := lay) (ad := ad) (σ := σ) hi
  rw [hk] at he
  exact va_iald hx hb hK.1 hP.w i 0 he rfl hin hd (kk H locs ls hP hD hS hl')
theorem z_cald (B : zB E G A cc nL own R0) (i n : Nat) {x : Int32} (hk : lay i = .inl (1, n)) (hi : i < N) (hd : decode cc pc = .ok (.caload, 1)) (hin : vp_in x n) (kk : ZW E G A nL lay N ad (pc + 1) lv (.int (σ i x.toNatClampNeg) :: st) σ) : ZW E G A nL lay N ad pc lv (.int x :: .ref (ad i) :: st) σ := by
  obtain ⟨p, l, e, R, s, m, args, below, meth, c, Q⟩ := E
  obtain ⟨hx, hb, hml, hown, hts, hK, hA, hR⟩ := B
  intro H locs ls hP hD hS hl'
  have he := z_Wat (G := G) (lay := lay) (ad := ad) (σ := σ) hi
  rw [hk] at he
  exact va_cald hx hb hK.1 hP.w i 1 he rfl hin hd (kk H locs ls hP hD hS hl')
/-- .. and written -/
theorem z_iast (B : zB E G A cc nL own R0) (i n : Nat) {x v : Int32} (hk : lay i = .inl (0, n)) (hi : i < N) (hd : decode cc pc = .ok (.iastore, 1)) (hin : vp_in x n) (kk : ZW E G A nL lay N ad (pc + 1) lv st (z_u σ i x.toNatClampNeg v)) : ZW E G A nL lay N ad pc lv (.int v :: .int x :: .ref (ad i) :: st) σ := by
  obtain ⟨p, l, e, R, s, m, args, below, meth, c, Q⟩ := E
  obtain ⟨hx, hb, hml, hown, hts, hK, hA, hR⟩ := B
  intro H locs ls hP hD hS hl'
  have he := z_Wat (G := G) (lay := lay) (ad := ad) (σ := σ) hi
  rw [hk] at he
  refine va_iast hx hb hK.1 hP.w hD.w hS i 0 he rfl hin hd (fun H1 locs1 hP1 hD1 hS1 => kk H1 locs1 ls (z_P.of ?_) hD hS1 hl')
  rw [z_Wset (σ' := z_u σ i x.toNatClampNeg v) hi ?_ (fun a ha => z_u_o ha)] at hP1
  · exact hP1
  · rw [hk, z_u_i]; rfl
theorem z_cast (B : zB E G A cc nL own R0) (i n : Nat) {x v : Int32} (hk : lay i = .inl (1, n)) (hi : i < N) (hd : decode cc pc = .ok (.castore, 1)) (hin : vp_in x n) (kk : ZW E G A nL lay N ad (pc + 1) lv st (z_u σ i x.toNatClampNeg (vp_nar .char v))) : ZW E G A nL lay N ad pc lv (.int v :: .int x :: .ref (ad i) :: st) σ := by
  obtain ⟨p, l, e, R, s, m, args, below, meth, c, Q⟩ := E
  obtain ⟨hx, hb, hml, hown, hts, hK, hA, hR⟩ := B
  intro H locs ls hP hD hS hl'
  have he := z_Wat (G := G) (lay := lay) (ad := ad) (σ := σ) hi
  rw [hk] at he
  refine va_cast hx hb hK.1 hP.w hD.w hS i 1 he rfl hin hd (fun H1 locs1 hP1 hD1 hS1 => kk H1 locs1 ls (z_P.of ?_) hD hS1 hl')
  rw [z_Wset (σ' := z_u σ i x.toNatClampNeg (vp_nar .char v)) hi ?_ (fun a ha => z_u_o ha)] at hP1
  · exact hP1
  · rw [hk, z_u_i]; rfl
/-- an array of towns is read -/
theorem z_aald (B : zB E G A cc nL own R0) (i t n : Nat) {x : Int32} (hk : lay i = .inl (t + 2, n)) (hi : i < N) (hd : decode cc pc = .ok (.aaload, 1)) (hin : vp_in x n) (kk : ZW E G A nL lay N ad (pc + 1) lv (.ref (ad (t + 38 * x.toNatClampNeg)) :: st) σ) : ZW E G A nL lay N ad pc lv (.int x :: .ref (ad i) :: st) σ := by
  obtain ⟨p, l, e, R, s, m, args, below, meth, c, Q⟩ := E
  obtain ⟨hx, hb, hml, hown, hts, hK, hA, hR⟩ := B
  intro H locs ls hP hD hS hl'
  have he := z_Wat (G := G) (lay := lay) (ad := ad) (σ := σ) hi
  rw [hk] at he
  exact va_aldq hx hb hK.1 hP.w i 2 he rfl hin hd (kk H locs ls hP hD hS hl')
/-- copying an int array onto another -/
theorem z_copyi (B : zB E G A cc nL own R0) (i j n0 n1 : Nat) {x : Int32} {index : Nat} (hk0 : lay i = .inl (0, n0)) (hi : i < N) (hk1 : lay j = .inl (0, n1)) (hj : j < N) (hlink : Cond.methodLink own index arraycopyName ∈ wsL_law) (hnat : Cond.native arraycopyName ∈ wsL_law) (hstat : Cond.static arraycopyName ∈ wsL_law) (hini : Cond.initialized "java/lang/System" ∈ wsL_law) (hfr : 1 ≤ R0.frames) (hlo : (st.map fun v => v.category).sum + (nativeFrameWords "java/lang/System" "arraycopy" 5 + 11) ≤ R0.locals) (hd : decode cc pc = .ok (.invokestatic index, 3)) (h3 : ¬ x < 0) (h4 : x.toNatClampNeg ≤ n0) (h5 : x.toNatClampNeg ≤ n1) (kk : ZW E G A nL lay N ad (pc + 3) lv st (fun a => if a = j then va_cpy (σ i) (σ j) 0 0 x.toNatClampNeg else σ a)) : ZW E G A nL lay N ad pc lv (.int x :: .int 0 :: .ref (ad j) :: .int 0 :: .ref (ad i) :: st) σ := by
  obtain ⟨p, l, e, R, s, m, args, below, meth, c, Q⟩ := E
  obtain ⟨hx, hb, hml, hown, hts, hK, hA, hR⟩ := B
  intro H locs ls hP hD hS hl'
  have he0 := z_Wat (G := G) (lay := lay) (ad := ad) (σ := σ) hi
  rw [hk0] at he0
  have he1 := z_Wat (G := G) (lay := lay) (ad := ad) (σ := σ) hj
  rw [hk1] at he1
  subst hR
  have z0 : (0 : Int32).toNatClampNeg = 0 := rfl
  refine va_copyi hx hb (hml.trans hl'.1.symm) hown (hts _ hlink) (hts _ hnat) (hts _ hstat) (hts _ hini) hK.1 hP.w hD.w hS i j 0 0 he0 he1 rfl rfl rfl (by decide) (by decide) h3 (by rw [z0]; omega) (by rw [z0]; omega) (fun _ _ => rfl) hfr hlo hd (fun H1 locs1 hP1 hD1 hS1 => kk H1 locs1 ls (z_P.of ?_) hD hS1 hl')
  rw [z_Wset (σ' := fun a => if a = j then va_cpy (σ i) (σ j) 0 0 x.toNatClampNeg else σ a) hj ?_ (fun a ha => if_neg ha)] at hP1
  · exact hP1
  · show _ = z_E G ad (if j = j then _ else _) (lay j)
    rw [if_pos rfl, hk1]; rfl
end ZR
end
section
/-! contracts -/
abbrev z_ws (y : MethodName) (c : ByteArray) (nL : Nat) (ret : Option FieldType) : List Cond := .code y c nL ret :: wsL_law
abbrev z_rm (fr lo : Nat) : Room := { frames := fr, cells := 0, slots := 0, locals := lo }
def z_Pre (G : z_G) (lay : Nat → z_K) (N : Nat) (ad : Nat → Nat) (σ : z_S) (sz : Nat) (U : State) : Prop := U.heap.size = sz ∧ z_P G lay N ad σ U.heap ∧ z_Kp G U ∧ z_D (fun _ => True) N ad
abbrev z_Qk : Type := z_G → (Nat → Nat) → (Nat → Prop) → Array Value → State → Outcome → State → Prop
def z_QI (lay : Nat → z_K) (N : Nat) (r : Int32) (σ' : z_S) : z_Qk := fun G ad A => va_Qi (fun (r' : Int32) (u : z_S) => r' = r ∧ u = σ') (fun u t => z_P G lay N ad u t.heap) A
def z_QF (lay : Nat → z_K) (N : Nat) (r : UInt32) (σ' : z_S) : z_Qk := fun G ad A => va_Qf (fun (r' : UInt32) (u : z_S) => r' = r ∧ u = σ') (fun u t => z_P G lay N ad u t.heap) A
def z_QV (lay : Nat → z_K) (N : Nat) (σ' : z_S) : z_Qk := fun G ad A => va_Qv (fun (u : z_S) => u = σ') (fun u t => z_P G lay N ad u t.heap) A
def zMet (y : MethodName) (c : ByteArray) (nL : Nat) (ret : Option FieldType) (fr lo : Nat) (lay : Nat → z_K) (N : Nat) (As : (Nat → Nat) → List Value) (σ : z_S) (Qk : z_Qk) : Prop :=
  ∀ (l : Launch) (G : z_G) (ad : Nat → Nat) (sz : Nat), Met l y (z_ws y c nL ret) (z_rm fr lo) (va_Pc (As ad) (z_Pre G lay N ad σ sz)) (Qk G ad (z_A N ad sz)) 0 0 (z_A N ad sz)
theorem z_D.self {N : Nat} {ad : Nat → Nat} {sz : Nat} {A : Nat → Prop} (h : z_D A N ad) : z_D (z_A N ad sz) N ad := ⟨h.1, fun i hi => Or.inl ⟨i, hi, rfl⟩⟩
theorem z_head0 {y : MethodName} {c : ByteArray} {nL : Nat} {ret : Option FieldType} {fr lo : Nat} {lay : Nat → z_K} {N : Nat} {As : (Nat → Nat) → List Value} {σ : z_S} {Qk : z_Qk} {own : String} (hpl : plainName y.cls = true) (hcls : y.cls = own) (hlen : ∀ ad, (lg_sl (As ad)).length ≤ nL)
    (body : ∀ (E : z_En) (G : z_G) (A : Nat → Prop) (ad : Nat → Nat), zB E G A c nL own (z_rm fr lo) → (∀ (p : Program) (l : Launch) (e : Env) (R : Room) (s : State) (m : MethodId) (args : Array Value) (below : List Frame) (meth : Method) (cd : Code) (Q : State → Prop), E = (p, l, e, R, s, m, args, below, meth, cd, Q) → meth.sig.returnType = ret ∧ meth.locks = false ∧ Q = MQ below (Qk G ad A) args s 0 0 A) → ZW E G A nL lay N ad 0 (lv_args 0 (As ad)) [] σ) :
    zMet y c nL ret fr lo lay N As σ Qk := by
  intro l G ad sz
  refine Met.ofW (cc := c) (maxL := nL) (ret := ret) hpl rfl ?_
  intro p e s m args below meth cd s₁ B hml hv
  obtain ⟨rfl, hsz, hP, hK, hD0⟩ := hv
  subst hsz
  have hown : s.vm.findClass own = some m.cls := hcls ▸ findClass_of_methodNamed B.named
  have hts := atoms_spec (ws := z_ws y c nL ret) B.pre
  have hl := lv_entry (As ad) (n := nL) (hlen ad)
  have key := body (p, l, e, (headSpec (z_ws y c nL ret) (z_rm fr lo)).room, s, m, (As ad).toArray, below, meth, cd, MQ below (Qk G ad (z_A N ad s.heap.size)) (As ad).toArray s 0 0 (z_A N ad s.heap.size)) G (z_A N ad s.heap.size) ad
    ⟨B.exec, B.bytes, hml, hown, fun w hw => hts w (List.mem_cons_of_mem _ hw), hK, fun q hq => Or.inr hq, rfl⟩
    (fun p' l' e' R' s' m' args' below' meth' cd' Q' he => by
      injection he with h1 he; injection he with h2 he; injection he with h3 he; injection he with h4 he; injection he with h5 he; injection he with h6 he; injection he with h7 he; injection he with h8 he; injection he with h9 he; injection he with h10 h11
      subst h5; subst h7; subst h8; subst h9; subst h11
      exact ⟨B.returns, B.notSynchronized, rfl⟩)
  rw [lg_entry_eq]
  exact key s.heap [] _ hP hD0.self va_S.rf hl
theorem z_headI {y : MethodName} {c : ByteArray} {nL : Nat} {ty : FieldType} {fr lo : Nat} {lay : Nat → z_K} {N : Nat} {As : (Nat → Nat) → List Value} {σ σ' : z_S} {r : Int32} (own : String) (hpl : plainName y.cls = true) (hcls : y.cls = own) (hlen : ∀ ad, (lg_sl (As ad)).length ≤ nL)
    (body : ∀ (E : z_En) (G : z_G) (A : Nat → Prop) (ad : Nat → Nat), zB E G A c nL own (z_rm fr lo) → (∀ pc lv, narrow ty (.int r) = .int r → decode c pc = .ok (.ireturn, 1) → ZW E G A nL lay N ad pc lv [.int r] σ') → ZW E G A nL lay N ad 0 (lv_args 0 (As ad)) [] σ) :
    zMet y c nL (some ty) fr lo lay N As σ (z_QI lay N r σ') := by
  refine z_head0 hpl hcls hlen (fun E G A ad B hE => body E G A ad B ?_)
  intro pc lv hn hd
  obtain ⟨p, l, e, R, s, m, args, below, meth, cd, Q⟩ := E
  obtain ⟨hr, hlk, hQ⟩ := hE _ _ _ _ _ _ _ _ _ _ _ rfl
  obtain ⟨hx, hb, hml, hown, hts, hK, hA, hR⟩ := B
  subst hQ
  intro H locs ls hP hD hS hl
  exact W.zret hx hb hr hn (fun t ht hW => ⟨⟨r, σ', rfl, ⟨rfl, rfl⟩, by show z_P G lay N ad _ t.heap; rw [ht]; exact hP⟩, hS.F ht⟩) hS.2.2 hd hlk
theorem z_headF {y : MethodName} {c : ByteArray} {nL : Nat} {fr lo : Nat} {lay : Nat → z_K} {N : Nat} {As : (Nat → Nat) → List Value} {σ σ' : z_S} {r : UInt32} (own : String) (hpl : plainName y.cls = true) (hcls : y.cls = own) (hlen : ∀ ad, (lg_sl (As ad)).length ≤ nL)
    (body : ∀ (E : z_En) (G : z_G) (A : Nat → Prop) (ad : Nat → Nat), zB E G A c nL own (z_rm fr lo) → (∀ pc lv, decode c pc = .ok (.freturn, 1) → ZW E G A nL lay N ad pc lv [.float r] σ') → ZW E G A nL lay N ad 0 (lv_args 0 (As ad)) [] σ) :
    zMet y c nL (some .float) fr lo lay N As σ (z_QF lay N r σ') := by
  refine z_head0 hpl hcls hlen (fun E G A ad B hE => body E G A ad B ?_)
  intro pc lv hd
  obtain ⟨p, l, e, R, s, m, args, below, meth, cd, Q⟩ := E
  obtain ⟨hr, hlk, hQ⟩ := hE _ _ _ _ _ _ _ _ _ _ _ rfl
  obtain ⟨hx, hb, hml, hown, hts, hK, hA, hR⟩ := B
  subst hQ
  intro H locs ls hP hD hS hl
  exact W.fret hx hb hr (fun t ht hW => ⟨⟨r, σ', rfl, ⟨rfl, rfl⟩, by show z_P G lay N ad _ t.heap; rw [ht]; exact hP⟩, hS.F ht⟩) hS.2.2 hd hlk
theorem z_headV {y : MethodName} {c : ByteArray} {nL : Nat} {fr lo : Nat} {lay : Nat → z_K} {N : Nat} {As : (Nat → Nat) → List Value} {σ σ' : z_S} (own : String) (hpl : plainName y.cls = true) (hcls : y.cls = own) (hlen : ∀ ad, (lg_sl (As ad)).length ≤ nL)
    (body : ∀ (E : z_En) (G : z_G) (A : Nat → Prop) (ad : Nat → Nat), zB E G A c nL own (z_rm fr lo) → (∀ pc lv, decode c pc = .ok (.return_, 1) → ZW E G A nL lay N ad pc lv [] σ') → ZW E G A nL lay N ad 0 (lv_args 0 (As ad)) [] σ) :
    zMet y c nL none fr lo lay N As σ (z_QV lay N σ') := by
  refine z_head0 hpl hcls hlen (fun E G A ad B hE => body E G A ad B ?_)
  intro pc lv hd
  obtain ⟨p, l, e, R, s, m, args, below, meth, cd, Q⟩ := E
  obtain ⟨hr, hlk, hQ⟩ := hE _ _ _ _ _ _ _ _ _ _ _ rfl
  obtain ⟨hx, hb, hml, hown, hts, hK, hA, hR⟩ := B
  subst hQ
  intro H locs ls hP hD hS hl
  exact W.vret hx hb hr (fun t ht hW => ⟨⟨σ', rfl, rfl, by show z_P G lay N ad _ t.heap; rw [ht]; exact hP⟩, hS.F ht⟩) hS.2.2 hd hlk
/-! calls -/
def zRun (E : z_En) (G : z_G) (A : Nat → Prop) (nL : Nat) (lay : Nat → z_K) (N : Nat) (ad : Nat → Nat) (pc : Nat) (lv : List (Nat × Value)) (st0 : List Value) (σ : z_S) (rest : List Value) (N' : Nat) (ad' : Nat → Nat) (Qk : z_Qk) : Prop :=
  match E with
  | (p, l, e, R, s, m, args, below, meth, c, Q) => ∀ (H : Heap) (locs : List Loc) (ls : Array Slot), z_P G lay N ad σ H → z_D A N ad → va_S A s.heap H locs → lv_has ls nL lv → ∃ a, va_Run p l e R s m args below meth c H locs 0 0 0 0 (F0 m pc ls st0) rest (Qk G ad' (z_A N' ad' H.size) a) (z_A N' ad' H.size)
/-- how a callee's world lies in the caller's -/
def z_sameK (ι : Nat → Nat) (b : Bool) : z_K → z_K → Bool
  | .inl (t, n), .inl (t', n') => t == t' && n == n' && (b || t < 2)
  | .inr (c, fs), .inr (c', fs') => c == c' && fs == fs'.map (Option.map ι)
  | _, _ => false
def z_cut (lay : Nat → z_K) (N : Nat) (lay' : Nat → z_K) (N' : Nat) (ι κ : Nat → Nat) (b : Bool) : Bool :=
  (List.range N').all (fun k => decide (ι k < N) && κ (ι k) == k && z_sameK ι b (lay (ι k)) (lay' k)) && (List.range N).all (fun i => !decide (κ i < N') || ι (κ i) == i)
theorem z_fs_map {ad : Nat → Nat} {x : Nat → Int32} {ι : Nat → Nat} : ∀ (fs : List (Option Nat)) (b : Nat), z_fs ad x b (fs.map (Option.map ι)) = z_fs (fun k => ad (ι k)) x b fs
  | [], b => rfl
  | none :: fs, b => by simp only [List.map_cons, Option.map_none, z_fs]; rw [z_fs_map fs]
  | some r :: fs, b => by simp only [List.map_cons, Option.map_some, z_fs]; rw [z_fs_map fs]
theorem z_sameE {G : z_G} {ad : Nat → Nat} {x : Nat → Int32} {ι : Nat → Nat} {b : Bool} (hb : b = true → ∀ k, ι k = k) : ∀ {k k' : z_K}, z_sameK ι b k k' = true → z_E G ad x k = z_E G (fun q => ad (ι q)) x k'
  | .inl (t, n), .inl (t', n'), h => by
    simp only [z_sameK, Bool.and_eq_true, beq_iff_eq, Bool.or_eq_true, decide_eq_true_eq] at h
    obtain ⟨⟨rfl, rfl⟩, h2⟩ := h
    match t with
    | 0 => rfl
    | 1 => rfl
    | t + 2 =>
      rcases h2 with h2 | h2
      · have h3 := hb h2
        simp [z_E, h3]
      · omega
  | .inr (c, fs), .inr (c', fs'), h => by
    simp only [z_sameK, Bool.and_eq_true, beq_iff_eq] at h
    obtain ⟨rfl, rfl⟩ := h
    simp only [z_E, z_fs_map]
  | .inl _, .inr _, h => by simp [z_sameK] at h
  | .inr _, .inl _, h => by simp [z_sameK] at h
def z_m (σ : z_S) (κ : Nat → Nat) (N' : Nat) (τ : z_S) : z_S := fun i => if κ i < N' then τ (κ i) else σ i
section ZC
variable {E : z_En} {G : z_G} {A : Nat → Prop} {cc : ByteArray} {nL : Nat} {own : String} {R0 : Room} {lay lay' : Nat → z_K} {N N' : Nat} {ad : Nat → Nat} {ι κ : Nat → Nat} {b : Bool} {pc : Nat} {lv : List (Nat × Value)} {st0 st : List Value} {σ τ τ' : z_S}
theorem z_cutP (hc : z_cut lay N lay' N' ι κ b = true) (hb : b = true → ∀ k, ι k = k) {H : Heap} (hP : z_P G lay N ad σ H) : z_P G lay' N' (fun k => ad (ι k)) (fun k => σ (ι k)) H := by
  unfold z_cut at hc
  simp only [Bool.and_eq_true, List.all_eq_true, List.mem_range, decide_eq_true_eq, beq_iff_eq] at hc
  intro k hk
  obtain ⟨⟨h1, h2⟩, h3⟩ := hc.1 k hk
  have h := hP (ι k) h1
  rw [z_sameE hb h3] at h
  exact h
theorem z_cutD (hc : z_cut lay N lay' N' ι κ b = true) (hD : z_D A N ad) : z_D A N' (fun k => ad (ι k)) := by
  unfold z_cut at hc
  simp only [Bool.and_eq_true, List.all_eq_true, List.mem_range, decide_eq_true_eq, beq_iff_eq] at hc
  refine ⟨fun i j hi hj e => ?_, fun i hi => hD.2 _ (hc.1 i hi).1.1⟩
  have h := hD.1 _ _ (hc.1 i hi).1.1 (hc.1 j hj).1.1 e
  rw [← (hc.1 i hi).1.2, h, (hc.1 j hj).1.2]
theorem z_cutA (hc : z_cut lay N lay' N' ι κ b = true) (hD : z_D A N ad) {sz : Nat} (hA : ∀ q, sz ≤ q → A q) : ∀ q, z_A N' (fun k => ad (ι k)) sz q → A q := by
  unfold z_cut at hc
  simp only [Bool.and_eq_true, List.all_eq_true, List.mem_range, decide_eq_true_eq, beq_iff_eq] at hc
  rintro q (⟨i, hi, rfl⟩ | h)
  · exact hD.2 _ (hc.1 i hi).1.1
  · exact hA q h
theorem z_cutM (hc : z_cut lay N lay' N' ι κ b = true) (hb : b = true → ∀ k, ι k = k) (hD : z_D A N ad) {H H1 : Heap} (hP : z_P G lay N ad σ H) (hP1 : z_P G lay' N' (fun k => ad (ι k)) τ' H1) (hk : ∀ q : Nat, q < H.size → ¬ z_A N' (fun k => ad (ι k)) H.size q → H1[q]? = H[q]?) : z_P G lay N ad (z_m σ κ N' τ') H1 := by
  have hc0 := hc
  unfold z_cut at hc
  simp only [Bool.and_eq_true, List.all_eq_true, List.mem_range, decide_eq_true_eq, beq_iff_eq, Bool.or_eq_true, Bool.not_eq_true', decide_eq_false_iff_not] at hc
  intro i hi
  by_cases hκ : κ i < N'
  · have hι : ι (κ i) = i := by
      rcases hc.2 i hi with h | h
      · exact absurd hκ h
      · exact h
    have h := hP1 (κ i) hκ
    rw [← z_sameE hb (hc.1 (κ i) hκ).2] at h
    simp only [hι] at h
    simp only [z_m, if_pos hκ]
    exact h
  · simp only [z_m, if_neg hκ]
    have h := hP i hi
    refine h.kept (hk (ad i) h.lt ?_)
    rintro (⟨j, hj, e⟩ | h2)
    · have h3 := hD.1 i (ι j) hi (hc.1 j hj).1.1 e
      rw [h3, (hc.1 j hj).1.2] at hκ
      exact hκ hj
    · have := h.lt
      simp only at this
      omega
/-- the goals behind a call -/
theorem z_cI {r : Int32} (B : zB E G A cc nL own R0) (hr : zRun E G A nL lay N ad pc lv st0 σ st N' (fun k => ad (ι k)) (z_QI lay' N' r τ')) (hc : z_cut lay N lay' N' ι κ b = true) (hb : b = true → ∀ k, ι k = k) (kk : ZW E G A nL lay N ad (pc + 3) lv (.int r :: st) (z_m σ κ N' τ')) : ZW E G A nL lay N ad pc lv st0 σ := by
  obtain ⟨p, l, e, R, s, m, args, below, meth, c, Q⟩ := E
  obtain ⟨hx, hb0, hml, hown, hts, hK, hA, hR⟩ := B
  intro H locs ls hP hD hS hl
  have hAq : ∀ q, H.size ≤ q → A q := fun q h => hA q (Nat.le_trans hS.1 h)
  have hF := z_cutA (A := A) hc hD hAq
  obtain ⟨a, hrun⟩ := hr H locs ls hP hD hS hl
  exact va_calli hrun hS (fun q _ h => hF q h) hF (fun r' u t H1 locs1 ht hvm hw hB hz hk hS1 => by
    obtain ⟨rfl, rfl⟩ := hw
    rw [ht] at hB
    exact kk H1 locs1 ls (z_cutM hc hb hD hP hB hk) hD hS1 hl)
theorem z_cF {r : UInt32} (B : zB E G A cc nL own R0) (hr : zRun E G A nL lay N ad pc lv st0 σ st N' (fun k => ad (ι k)) (z_QF lay' N' r τ')) (hc : z_cut lay N lay' N' ι κ b = true) (hb : b = true → ∀ k, ι k = k) (kk : ZW E G A nL lay N ad (pc + 3) lv (.float r :: st) (z_m σ κ N' τ')) : ZW E G A nL lay N ad pc lv st0 σ := by
  obtain ⟨p, l, e, R, s, m, args, below, meth, c, Q⟩ := E
  obtain ⟨hx, hb0, hml, hown, hts, hK, hA, hR⟩ := B
  intro H locs ls hP hD hS hl
  have hAq : ∀ q, H.size ≤ q → A q := fun q h => hA q (Nat.le_trans hS.1 h)
  have hF := z_cutA (A := A) hc hD hAq
  obtain ⟨a, hrun⟩ := hr H locs ls hP hD hS hl
  exact va_callf hrun hS (fun q _ h => hF q h) hF (fun r' u t H1 locs1 ht hvm hw hB hz hk hS1 => by
    obtain ⟨rfl, rfl⟩ := hw
    rw [ht] at hB
    exact kk H1 locs1 ls (z_cutM hc hb hD hP hB hk) hD hS1 hl)
theorem z_cV (B : zB E G A cc nL own R0) (hr : zRun E G A nL lay N ad pc lv st0 σ st N' (fun k => ad (ι k)) (z_QV lay' N' τ')) (hc : z_cut lay N lay' N' ι κ b = true) (hb : b = true → ∀ k, ι k = k) (kk : ZW E G A nL lay N ad (pc + 3) lv st (z_m σ κ N' τ')) : ZW E G A nL lay N ad pc lv st0 σ := by
  obtain ⟨p, l, e, R, s, m, args, below, meth, c, Q⟩ := E
  obtain ⟨hx, hb0, hml, hown, hts, hK, hA, hR⟩ := B
  intro H locs ls hP hD hS hl
  have hAq : ∀ q, H.size ≤ q → A q := fun q h => hA q (Nat.le_trans hS.1 h)
  have hF := z_cutA (A := A) hc hD hAq
  obtain ⟨a, hrun⟩ := hr H locs ls hP hD hS hl
  exact va_callv hrun hS (fun q _ h => hF q h) hF (fun u t H1 locs1 ht hvm hw hB hz hk hS1 => by
    subst hw
    rw [ht] at hB
    exact kk H1 locs1 ls (z_cutM hc hb hD hP hB hk) hD hS1 hl)
/-- what the tables say of a method -/
def z_Y (y : MethodName) (c : ByteArray) (nL : Nat) (ret : Option FieldType) (n : Nat) : Prop := Cond.initialized y.cls ∈ wsL_law ∧ Cond.code y c nL ret ∈ wsL_law ∧ (y.cls ≠ "java/lang/invoke/MethodHandle" ∧ y.cls ≠ "java/lang/invoke/VarHandle" ∧ (parseMethodDescriptor y.desc).map (fun d => d.parameters.length) = some n)
def z_YV (y : MethodName) (c : ByteArray) (nL : Nat) (ret : Option FieldType) (n : Nat) : Prop := z_Y y c nL ret n ∧ Cond.instanceMethod y ∈ wsL_law ∧ Cond.selects y.cls y y ∈ wsL_law
def z_YS (y : MethodName) (c : ByteArray) (nL : Nat) (ret : Option FieldType) (n : Nat) : Prop := z_Y y c nL ret n ∧ Cond.static y ∈ wsL_law
theorem z_good {w : Cond} (h : w ∈ wsL_law) : (w.onTables && w.keeps) = true ∨ ∃ ty, w = .arrayClass ty := good_of_word (List.all_eq_true.mp wsL_good w h)
theorem z_goodIn {y : MethodName} {c : ByteArray} {nL : Nat} {ret : Option FieldType} {n : Nat} (h : z_Y y c nL ret n) : GoodIn wsL_law (z_ws y c nL ret) := by
  intro w hw
  rcases List.mem_cons.mp hw with rfl | hw
  · exact ⟨h.2.1, z_good h.2.1⟩
  · exact ⟨hw, z_good hw⟩
theorem z_pre {y : MethodName} {c : ByteArray} {nL : Nat} {ret : Option FieldType} {fr lo : Nat} {As : (Nat → Nat) → List Value} {Qk : z_Qk} (hM : zMet y c nL ret fr lo lay' N' As τ Qk) {s : State} {H : Heap} (hK : z_Kp G s) (hP' : z_P G lay' N' (fun k => ad (ι k)) τ H) (hD' : z_D A N' (fun k => ad (ι k))) : FrameBlind (va_Pc (As fun k => ad (ι k)) (z_Pre G lay' N' (fun k => ad (ι k)) τ H.size)) ∧ ∀ U : State, U.heap = H → s.WarmedH U.vm → va_Pc (As fun k => ad (ι k)) (z_Pre G lay' N' (fun k => ad (ι k)) τ H.size) (As fun k => ad (ι k)).toArray U := by
  refine ⟨fun a U g mk q => ⟨q.1, q.2.1, q.2.2.1, q.2.2.2.1.calling, q.2.2.2.2⟩, fun U hU hW => ⟨rfl, by rw [hU], by rw [hU]; exact hP', hK.warm hW, hD'.1, fun _ _ => trivial⟩⟩
theorem z_rV (B : zB E G A cc nL own R0) {y : MethodName} {c' : ByteArray} {nL' : Nat} {ret : Option FieldType} {fr lo n index q ci : Nat} {fs : List (Option Nat)} {T : u_T} {nf : Nat} {As : (Nat → Nat) → List Value} {vs : List Value} {Qk : z_Qk} (hY : z_YV y c' nL' ret n) (hM : zMet y c' nL' ret fr lo lay' N' As τ Qk) (hτ : τ = fun k => σ (ι k)) (hc : z_cut lay N lay' N' ι κ b = true) (hb : b = true → ∀ k, ι k = k)
    (hk : lay' q = .inr (ci, fs)) (hq : q < N') (hci : vwCl[ci]? = some (y.cls, T, nf)) (hAs : (As fun k => ad (ι k)) = .ref (ad (ι q)) :: vs) (hn : vs.length = n) (hst : st0 = vs.reverse ++ .ref (ad (ι q)) :: st) (hcat : (st.map fun v => v.category).sum ≤ 8)
    (hlink : Cond.methodLink own index y ∈ wsL_law) (hR : fr + 1 ≤ R0.frames ∧ 8 + (nL' + 11) + lo ≤ R0.locals) (hd : decode cc pc = .ok (.invokevirtual index, 3)) : zRun E G A nL lay N ad pc lv st0 σ st N' (fun k => ad (ι k)) Qk := by
  obtain ⟨p, l, e, R, s, m, args, below, meth, c, Q⟩ := E
  obtain ⟨hx, hb0, hml, hown, hts, hK, hA, hR0⟩ := B
  subst hR0; subst hτ
  intro H locs ls hP hD hS hl
  have hP' := z_cutP (G := G) (σ := σ) hc hb hP
  have hD' := z_cutD hc hD
  have hpre := z_pre hM hK hP' hD'
  have hcw : CallW R s args own y.cls index y c' nL' ret (z_ws y c' nL' ret) (z_rm fr lo) 0 0 n :=
    ⟨callB_of n hts (z_goodIn hY.1) rfl rfl rfl (hts _ hY.1.1) (hts _ hlink) hY.1.2.2 hR, hts _ hY.2.1, hts _ hY.2.2⟩
  have hrecv := va_recv (ci := ci) (q := (y.cls, T, nf)) hK.1 hP'.w hci (by
    have := z_Wat (G := G) (lay := lay') (ad := fun k => ad (ι k)) (σ := fun k => σ (ι k)) hq
    rw [hk] at this
    exact this)
  rw [hAs] at hpre
  have hpre2 : PreV s H y.cls (ad (ι q)) (va_Pc (.ref (ad (ι q)) :: vs) (z_Pre G lay' N' (fun k => ad (ι k)) (fun k => σ (ι k)) H.size)) vs := ⟨hpre.1, hrecv, hpre.2⟩
  have hM' := hM l G (fun k => ad (ι k)) H.size
  rw [hAs] at hM'
  exact ⟨_, va_runV (As := vs) (rest := st) ⟨hx, hb0, hml, hown, hts⟩ hM' hcw hpre2 rfl hn hl.1 hst (lv_room (m := m) (pc := pc) (ls := ls) (rest := st0) hcat) hd ⟨Nat.zero_le _, Nat.zero_le _⟩⟩
theorem z_rS (B : zB E G A cc nL own R0) {y : MethodName} {c' : ByteArray} {nL' : Nat} {ret : Option FieldType} {fr lo n index : Nat} {As : (Nat → Nat) → List Value} {vs : List Value} {Qk : z_Qk} (hY : z_YS y c' nL' ret n) (hM : zMet y c' nL' ret fr lo lay' N' As τ Qk) (hτ : τ = fun k => σ (ι k)) (hc : z_cut lay N lay' N' ι κ b = true) (hb : b = true → ∀ k, ι k = k)
    (hAs : (As fun k => ad (ι k)) = vs) (hn : vs.length = n) (hst : st0 = vs.reverse ++ st) (hcat : (st.map fun v => v.category).sum ≤ 8)
    (hlink : Cond.methodLink own index y ∈ wsL_law) (hR : fr + 1 ≤ R0.frames ∧ 8 + (nL' + 11) + lo ≤ R0.locals) (hd : decode cc pc = .ok (.invokestatic index, 3)) : zRun E G A nL lay N ad pc lv st0 σ st N' (fun k => ad (ι k)) Qk := by
  obtain ⟨p, l, e, R, s, m, args, below, meth, c, Q⟩ := E
  obtain ⟨hx, hb0, hml, hown, hts, hK, hA, hR0⟩ := B
  subst hR0; subst hτ
  intro H locs ls hP hD hS hl
  have hP' := z_cutP (G := G) (σ := σ) hc hb hP
  have hD' := z_cutD hc hD
  have hpre := z_pre hM hK hP' hD'
  have hcw : CallB R s args own index y c' nL' ret (z_ws y c' nL' ret) (z_rm fr lo) 0 0 n ∧ (Cond.static y).before args s = true :=
    ⟨callB_of n hts (z_goodIn hY.1) rfl rfl rfl (hts _ hY.1.1) (hts _ hlink) hY.1.2.2 hR, hts _ hY.2⟩
  have hM' := hM l G (fun k => ad (ι k)) H.size
  subst hAs
  exact ⟨_, va_runS (As := As fun k => ad (ι k)) (rest := st) ⟨hx, hb0, hml, hown, hts⟩ hM' hcw hpre rfl hn hl.1 hst (lv_room (m := m) (pc := pc) (ls := ls) (rest := st0) hcat) hd ⟨Nat.zero_le _, Nat.zero_le _⟩⟩
theorem z_rN (B : zB E G A cc nL own R0) {y : MethodName} {c' : ByteArray} {nL' : Nat} {ret : Option FieldType} {fr lo n index : Nat} {host : String} {As : (Nat → Nat) → List Value} {vs : List Value} {Qk : z_Qk} (hY : z_YS y c' nL' ret n) (hM : zMet y c' nL' ret fr lo lay' N' As τ Qk) (hτ : τ = fun k => σ (ι k)) (hc : z_cut lay N lay' N' ι κ b = true) (hb : b = true → ∀ k, ι k = k)
    (hAs : (As fun k => ad (ι k)) = vs) (hn : vs.length = n) (hst : st0 = vs.reverse ++ st) (hcat : (st.map fun v => v.category).sum ≤ 8)
    (hlink : (own, index, y, host) ∈ z_nest) (hR : fr + 1 ≤ R0.frames ∧ 8 + (nL' + 11) + lo ≤ R0.locals) (hd : decode cc pc = .ok (.invokestatic index, 3)) : zRun E G A nL lay N ad pc lv st0 σ st N' (fun k => ad (ι k)) Qk := by
  obtain ⟨p, l, e, R, s, m, args, below, meth, c, Q⟩ := E
  obtain ⟨hx, hb0, hml, hown, hts, hK, hA, hR0⟩ := B
  subst hR0; subst hτ
  intro H locs ls hP hD hS hl
  have hP' := z_cutP (G := G) (σ := σ) hc hb hP
  have hD' := z_cutD hc hD
  have hpre := z_pre hM hK hP' hD'
  have hcw : va_CN R s args own index y host c' nL' ret (z_ws y c' nL' ret) (z_rm fr lo) 0 0 n ∧ (Cond.static y).before args s = true ∧ True :=
    ⟨va_cnB n hts (z_goodIn hY.1) rfl rfl rfl (hK.2 _ hlink) (hts _ hY.1.1) hY.1.2.2 hR, hts _ hY.2, trivial⟩
  have hM' := hM l G (fun k => ad (ι k)) H.size
  subst hAs
  exact ⟨_, va_runSN (As := As fun k => ad (ι k)) (rest := st) ⟨hx, hb0, hml, hown, hts⟩ hM' hcw hpre rfl hn hl.1 hst (lv_room (m := m) (pc := pc) (ls := ls) (rest := st0) hcat) hd ⟨Nat.zero_le _, Nat.zero_le _⟩⟩
theorem z_to {σ' : z_S} (he : σ' = σ) (kk : ZW E G A nL lay N ad pc lv st σ') : ZW E G A nL lay N ad pc lv st σ := he ▸ kk
theorem z_toA {σ' : z_S} (he : ∀ i, i < N → σ' i = σ i) (kk : ZW E G A nL lay N ad pc lv st σ') : ZW E G A nL lay N ad pc lv st σ := by
  obtain ⟨p, l, e, R, s, m, args, below, meth, c, Q⟩ := E
  intro H locs ls hP hD hS hl
  exact kk H locs ls (fun i hi => by rw [he i hi]; exact hP i hi) hD hS hl
theorem z_mid : ∀ i, i < N → τ' i = z_m σ (fun k => k) N τ' i := fun i hi => (if_pos hi).symm
theorem z_mro (hc : z_cut lay N lay' N' ι κ b = true) : ∀ i, i < N → σ i = z_m σ κ N' (fun k => σ (ι k)) i := by
  unfold z_cut at hc
  simp only [Bool.and_eq_true, List.all_eq_true, List.mem_range, decide_eq_true_eq, beq_iff_eq, Bool.or_eq_true, Bool.not_eq_true', decide_eq_false_iff_not] at hc
  intro i hi
  by_cases hκ : κ i < N'
  · rcases hc.2 i hi with h | h
    · exact absurd hκ h
    · simp only [z_m, if_pos hκ, h]
  · simp only [z_m, if_neg hκ]
theorem z_cut0 : z_cut lay N lay' 0 (fun k => k) (fun k => k) b = true := by simp [z_cut]
end ZC
def z_lay0 : Nat → z_K := fun _ => .inl (0, 0)
def z_hid : (true : Bool) = true → ∀ k : Nat, (fun k => k) k = k := fun _ _ => rfl
def z_hno {ι : Nat → Nat} : (false : Bool) = true → ∀ k : Nat, ι k = k := fun h => by cases h
theorem z_ifT {O : Type} {c : Prop} [Decidable c] {a b : Option O} {o : O} (hc : c) (h : (if c then a else b) = some o) : a = some o := by rw [if_pos hc] at h; exact h
theorem z_ifF {O : Type} {c : Prop} [Decidable c] {a b : Option O} {o : O} (hc : ¬ c) (h : (if c then a else b) = some o) : b = some o := by rw [if_neg hc] at h; exact h
/-- checks -/
def z_cki {O : Type} (x : Int32) (n : Nat) (X : Option O) : Option O := if ¬ (x < 0 ∨ n ≤ x.toNatClampNeg) then X else none
theorem z_ckiE {O : Type} {x : Int32} {n : Nat} {X : Option O} {o : O} (h : z_cki x n X = some o) : vp_in x n ∧ X = some o := z_ckE h
def z_f32 {O : Type} (r : UInt32) (X : Option O) : Option O := if r &&& 0x7fffffff ≤ 0x7f800000 then X else none
theorem z_f32E {O : Type} {r : UInt32} {X : Option O} {o : O} (h : z_f32 r X = some o) : vf_n32 r ∧ X = some o := z_ckE h
def z_f64 {O : Type} (r : UInt64) (X : Option O) : Option O := if r &&& 0x7fffffffffffffff ≤ 0x7ff0000000000000 then X else none
theorem z_f64E {O : Type} {r : UInt64} {X : Option O} {o : O} (h : z_f64 r X = some o) : vf_n64 r ∧ X = some o := z_ckE h
/-- a char is written to a field -/
def z_ckc {O : Type} (x : Int32) (X : Option O) : Option O := if narrow .char (.int x) = .int x ∧ fits .char (.int x) = true then X else none
theorem z_ckcE {O : Type} {x : Int32} {X : Option O} {o : O} (h : z_ckc x X = some o) : (narrow .char (.int x) = .int x ∧ fits .char (.int x) = true) ∧ X = some o := z_ckE h
/-- a boolean is returned -/
def z_ckz {O : Type} (x : Int32) (X : Option O) : Option O := if x = 0 ∨ x = 1 then X else none
theorem z_ckzE {O : Type} {x : Int32} {X : Option O} {o : O} (h : z_ckz x X = some o) : narrow .boolean (.int x) = .int x ∧ X = some o := by
  obtain ⟨h1, h2⟩ := z_ckE h
  refine ⟨?_, h2⟩
  rcases h1 with rfl | rfl <;> rfl
/-- calls in the pure text -/
def z_b1 {α O : Type} (v : Option α) (k : α → Option O) : Option O := match v with
  | none => none
  | some a => k a
def z_b2 {α β O : Type} (v : Option (α × β)) (k : α → β → Option O) : Option O := match v with
  | none => none
  | some (a, b) => k a b
theorem z_b1E {α O : Type} {v : Option α} {k : α → Option O} {o : O} (h : z_b1 v k = some o) : ∃ a, v = some a ∧ k a = some o := by
  cases v with
  | none => cases h
  | some a => exact ⟨a, rfl, h⟩
theorem z_b2E {α β O : Type} {v : Option (α × β)} {k : α → β → Option O} {o : O} (h : z_b2 v k = some o) : ∃ a b, v = some (a, b) ∧ k a b = some o := by
  cases v with
  | none => cases h
  | some a => exact ⟨a.1, a.2, rfl, h⟩
theorem z_prE {α β : Type} {a a' : α} {b b' : β} (h : some (a, b) = some (a', b')) : a = a' ∧ b = b' := by
  injection h with h
  injection h with h1 h2
  exact ⟨h1, h2⟩
end
